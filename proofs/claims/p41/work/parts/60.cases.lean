def lw_lv (b a1 a2 : Nat) (i : Int32) : List (Nat × Value) := [(0, .ref b), (1, .ref a1), (2, .ref a2), (3, .int i)]
section LAW
variable {p : Program} {e : Env} {s : State} {m : MethodId} {below : List Frame} {meth : Method} {c : Code} {l : Launch} {b L : Nat} {xs : Nat → Int32} {D : va_G} {ad : Nat → Nat} {tau : Nat → Int64} {H : Heap} {locs : List Loc} {la : Array Slot} {cells slots : Nat} {Q : State → Prop}
/-- the script's place i + j -/
theorem lw_arg {pc i j a1 a2 : Nat} {x : Int32} {st : List Value} (C0 : lw_At p s m meth c b L xs) (hS : va_S (fun q : Nat => s.heap.size ≤ q) s.heap H locs) (hl : lv_has la 4 (lw_lv b a1 a2 (nI i))) (hj : i + j < L) (hL : L ≤ 3072) (hx : Int32.ofInt j = x) (hj2 : x = nI j)
    (d0 : decode code pc = .ok (.aload_n 0, 1)) (d1 : decode code (pc + 1) = .ok (.iload_n 3, 1)) (d2 : decode code (pc + 1 + 1) = .ok (.iconst j, 1)) (d3 : decode code (pc + 1 + 1 + 1) = .ok (.iadd, 1)) (d4 : decode code (pc + 1 + 1 + 1 + 1) = .ok (.iaload, 1))
    (K : W p l e room_1 s m #[Value.ref b] below meth c H locs cells slots Q (F0 m (pc + 5) la (.int (xs (i + j)) :: st))) : W p l e room_1 s m #[Value.ref b] below meth c H locs cells slots Q (F0 m pc la st) := by
  obtain ⟨hx0, hb, hr, hml, hown, hts, hX, hbl, hlocks, hgv⟩ := C0
  have hbA : ¬ (fun q : Nat => s.heap.size ≤ q) b := Nat.not_le.mpr hbl
  refine lv_aload_n hx0 hb d0 rfl (lv_at hl 0 rfl) ?_
  refine lv_iload_n hx0 hb d1 rfl (lv_at hl 3 rfl) ?_
  refine lv_iconst hx0 hb d2 hx ?_
  refine lv_iadd hx0 hb d3 ?_
  rw [hj2, nI_add]
  refine va_sld hx0 hb hX hbl hbA hS (i := nI (i + j)) (vp_in_nI hj (by omega)) d4 ?_
  rw [nI_clamp (show i + j < 2 ^ 31 by omega)]
  exact K
theorem lw_cmp {i L : Nat} (hi : i ≤ 100000) (hL : L ≤ 3072) : (nI L - 6 < nI i) ↔ ((L : Nat) : Int) - 6 < ((i : Nat) : Int) := by
  have e1 : nI L - 6 = Int32.ofInt (((L : Nat) : Int) - 6) := by
    rw [Int32.ofInt_sub]; rfl
  have e2 : nI i = Int32.ofInt ((i : Nat) : Int) := by rfl
  rw [e1, e2]
  exact lt_I (by omega) (by omega)
theorem lw_S {h : mx_H} (hR : mx_Rp (tB l D s.heap.size ad s.heap tau).2.1.1 s h H) (hL : ∀ q ∈ locs, mx_up (tB l D s.heap.size ad s.heap tau).2.1 q.base) : va_S (fun q : Nat => s.heap.size ≤ q) s.heap H locs := by
  have h3 : H.size = s.heap.size + (h.1 - 1) := hR.2.2.1
  have h4 : ∀ q, q < s.heap.size → H[q]? = s.heap[q]? := hR.2.2.2.1
  exact ⟨by omega, fun q hq _ => h4 q hq, fun q hq => hL q hq⟩
/-- what holds between two calls: ph bounds new cells and the tape -/
def lw_I (B : mx_B) (s : State) (b i : Nat) (ph : Int) (H : Heap) (locs : List Loc) (la : Array Slot) (cells slots : Nat) : Prop :=
  ∃ (n w : Nat) (S : Nat → xS) (Z : xZ) (h : mx_H), XH n w S Z h ∧ GI n S Z ∧ mx_Rp B.2.1.1 s h H ∧ (∀ q ∈ locs, mx_up B.2.1 q.base) ∧ lv_has la 4 (lw_lv b (mx_rho B.2.1.1 1) (mx_rho B.2.1.1 56) (nI i)) ∧ (3 * ((n : Nat) : Int) + Z 1 1 ≤ ph ∧ ((w : Nat) : Int) ≤ 1000000 + 900 * (((n : Nat) : Int) - 83)) ∧ cells = n - 1 ∧ slots = w
theorem mx_Ca_le {B : mx_B} {d mi : Nat} {as : List Value} {h q : mx_H} {v : Option Value} (hc : mx_Ca B d mi as h (v, q)) : mx_le h q := by
  obtain ⟨_, _, h1, _⟩ := hc
  exact h1
theorem lw_room {n w n1 w1 : Nat} {S S1 : Nat → xS} {Z Z1 : xZ} {h h1 : mx_H} {ph q : Int} (hx : XH n w S Z h) (hx1 : XH n1 w1 S1 Z1 h1) (hG : GI n S Z) (hq : 3 * ((n : Nat) : Int) + Z 1 1 ≤ ph ∧ ((w : Nat) : Int) ≤ 1000000 + 900 * (((n : Nat) : Int) - 83)) (hq0 : ph + q ≤ 12000) (hq1 : lq q n w Z n1 w1 Z1) (hle : mx_le h h1) : (n - 1 + (h1.1 - h.1) = n1 - 1 ∧ w + (h1.2.1 - h.2.1) = w1) ∧ (n1 - 1 ≤ 600000 ∧ w1 ≤ 7302250) ∧ (3 * ((n1 : Nat) : Int) + Z1 1 1 ≤ ph + q ∧ ((w1 : Nat) : Int) ≤ 1000000 + 900 * (((n1 : Nat) : Int) - 83)) := by
  have a1 := hx.1; have a2 := hx.2.1; have b1 := hx1.1; have b2 := hx1.2.1; have b3 := hx1.2.2.1; have g := GI_n hG
  have l1 := hle.1; have l2 := hle.2
  unfold lq at hq1
  rw [a1, b1] at *
  rw [a2, b2] at *
  refine ⟨⟨by omega, by omega⟩, ⟨by omega, by omega⟩, by omega, by omega⟩
theorem eI (x : Int32) : xI x.toInt = .int x := by rw [xI, Int32.ofInt_toInt]
theorem eL (x : Int64) : xL x.toInt = .long x := by rw [xL, Int64.ofInt_toInt]
theorem iI_x (x : Int32) : iI x.toInt := ⟨x.le_toInt, by have := x.toInt_lt; omega⟩
theorem iL_x (x : Int64) : iL x.toInt := ⟨x.le_toInt, by have := x.toInt_lt; omega⟩
set_option maxHeartbeats 4000000 in
set_option maxRecDepth 100000 in
theorem lc_0 (C0 : lw_At p s m meth c b L xs) (hL : L ≤ 3072) (A : mx_Wx (tB l D s.heap.size ad s.heap tau) p s m #[Value.ref b] c code 4 R_law) {i : Nat} (hi : i + 6 ≤ L) {ph : Int} (hph : ph ≤ 10489) (hI : lw_I (tB l D s.heap.size ad s.heap tau) s b i ph H locs la cells slots) (K : ∀ (H : Heap) (locs : List Loc) (cells slots : Nat), lw_I (tB l D s.heap.size ad s.heap tau) s b i (ph + 20) H locs la cells slots → W p l e room_1 s m #[Value.ref b] below meth c H locs cells slots Q (F0 m 1513 la [])) : W p l e room_1 s m #[Value.ref b] below meth c H locs cells slots Q (F0 m 228 la []) := by
  obtain ⟨hx0, hb, hr, hml, hown, hts, hX, hbl, hlocks, hgv⟩ := id C0
  obtain ⟨nZ, wZ, SZ, ZZ, hZ, hxZ, hGZ, hRZ, hLoZ, hl, hrZ, rfl, rfl⟩ := hI
  have qZ : 0 ≤ ZZ 1 1 ∧ ZZ 1 1 ≤ 900 := hGZ.pr 1 1
  have hS := lw_S hRZ hLoZ
  refine lv_aload_n hx0 hb dl_228 rfl (lv_at hl 1 rfl) ?_
  refine lw_arg C0 hS hl (j := 1) (x := 1) (by omega) hL (by decide) (by decide +kernel) dl_229 dl_230 dl_231 dl_232 dl_233 ?_
  refine lw_arg C0 hS hl (j := 2) (x := 2) (by omega) hL (by decide) (by decide +kernel) dl_234 dl_235 dl_236 dl_237 dl_238 ?_
  refine lw_arg C0 hS hl (j := 3) (x := 3) (by omega) hL (by decide) (by decide +kernel) dl_239 dl_240 dl_241 dl_242 dl_243 ?_
  refine lw_arg C0 hS hl (j := 4) (x := 4) (by omega) hL (by decide) (by decide +kernel) dl_244 dl_245 dl_246 dl_247 dl_248 ?_
  refine lw_arg C0 hS hl (j := 5) (x := 5) (by omega) hL (by decide) (by decide +kernel) dl_249 dl_250 dl_251 dl_252 dl_253 ?_
  obtain ⟨zA, nA, wA, SA, ZA, hA, hcA, hxA, hGA, hqA⟩ := sf_89 (l := l) (D := D) (b0 := s.heap.size) (ad := ad) (Hb := s.heap) (tau := tau) (x0 := (xs (i + 1)).toInt) (x1 := (xs (i + 2)).toInt) (x2 := (xs (i + 3)).toInt) (x3 := (xs (i + 4)).toInt) (x4 := (xs (i + 5)).toInt) hxZ hGZ (iI_x (xs (i + 1))) (iI_x (xs (i + 2))) (iI_x (xs (i + 3))) (iI_x (xs (i + 4))) (iI_x (xs (i + 5))) (by omega)
  rw [eI (xs (i + 1)), eI (xs (i + 2)), eI (xs (i + 3)), eI (xs (i + 4)), eI (xs (i + 5))] at hcA
  obtain ⟨⟨zcA, zsA⟩, ⟨rcA, rsA⟩, hrA⟩ := lw_room hxZ hxA hGZ hrZ (by omega) hqA (mx_Ca_le hcA)
  refine W.eq (g2 := F0 m 254 la ((([.int (xs (i + 1)), .int (xs (i + 2)), .int (xs (i + 3)), .int (xs (i + 4)), .int (xs (i + 5))] : List Value).map (mx_v (tB l D s.heap.size ad s.heap tau).2.1.1)).reverse ++ .ref (mx_rho (tB l D s.heap.size ad s.heap tau).2.1.1 1) :: [])) rfl ?_
  refine mx_Wcallv (B := (tB l D s.heap.size ad s.heap tau)) (ci := 11) (r := cr_11) (n := 5) A dl_254 me_89 rfl (hxZ.obj (lt83 (GI_n hGZ) rfl) (GI_s hGZ 1 rfl)) (tw lx_2_189 rfl) (tw lx_2_190 rfl) (tw lx_2_188 rfl) hcA rfl hl.1 (by exact Nat.le_of_ble_eq_true rfl) hRZ hLoZ (by decide) (by decide) ⟨by show nZ - 1 + (hA.1 - hZ.1) ≤ 600000; rw [zcA]; exact rcA, by show wZ + (hA.2.1 - hZ.2.1) ≤ 7302250; rw [zsA]; exact rsA⟩ (fun HA locsA hRA hLoA => ?_)
  refine W.cs zcA zsA ?_
  have qA : 0 ≤ ZA 1 1 ∧ ZA 1 1 ≤ 900 := hGA.pr 1 1
  have hS1 := lw_S hRA hLoA
  clear hS
  have hS := hS1
  refine W.eq (g2 := F0 m 257 la (xI zA :: [])) rfl ?_
  refine lv_pop hx0 hb dl_257 rfl ?_
  refine lv_aload_n hx0 hb dl_258 rfl (lv_at hl 2 rfl) ?_
  refine lw_arg C0 hS hl (j := 1) (x := 1) (by omega) hL (by decide) (by decide +kernel) dl_259 dl_260 dl_261 dl_262 dl_263 ?_
  refine lw_arg C0 hS hl (j := 2) (x := 2) (by omega) hL (by decide) (by decide +kernel) dl_264 dl_265 dl_266 dl_267 dl_268 ?_
  refine lw_arg C0 hS hl (j := 3) (x := 3) (by omega) hL (by decide) (by decide +kernel) dl_269 dl_270 dl_271 dl_272 dl_273 ?_
  refine lw_arg C0 hS hl (j := 4) (x := 4) (by omega) hL (by decide) (by decide +kernel) dl_274 dl_275 dl_276 dl_277 dl_278 ?_
  refine lw_arg C0 hS hl (j := 5) (x := 5) (by omega) hL (by decide) (by decide +kernel) dl_279 dl_280 dl_281 dl_282 dl_283 ?_
  obtain ⟨zB, nB, wB, SB, ZB, hB, hcB, hxB, hGB, hqB⟩ := sf_157 (l := l) (D := D) (b0 := s.heap.size) (ad := ad) (Hb := s.heap) (tau := tau) (x0 := (xs (i + 1)).toInt) (x1 := (xs (i + 2)).toInt) (x2 := (xs (i + 3)).toInt) (x3 := (xs (i + 4)).toInt) (x4 := (xs (i + 5)).toInt) hxA hGA (iI_x (xs (i + 1))) (iI_x (xs (i + 2))) (iI_x (xs (i + 3))) (iI_x (xs (i + 4))) (iI_x (xs (i + 5))) (by omega)
  rw [eI (xs (i + 1)), eI (xs (i + 2)), eI (xs (i + 3)), eI (xs (i + 4)), eI (xs (i + 5))] at hcB
  obtain ⟨⟨zcB, zsB⟩, ⟨rcB, rsB⟩, hrB⟩ := lw_room hxA hxB hGA hrA (by omega) hqB (mx_Ca_le hcB)
  refine W.eq (g2 := F0 m 284 la ((([.int (xs (i + 1)), .int (xs (i + 2)), .int (xs (i + 3)), .int (xs (i + 4)), .int (xs (i + 5))] : List Value).map (mx_v (tB l D s.heap.size ad s.heap tau).2.1.1)).reverse ++ .ref (mx_rho (tB l D s.heap.size ad s.heap tau).2.1.1 56) :: [])) rfl ?_
  refine mx_Wcallv (B := (tB l D s.heap.size ad s.heap tau)) (ci := 12) (r := cr_12) (n := 5) A dl_284 me_157 rfl (hxA.obj (lt83 (GI_n hGA) rfl) (GI_s hGA 56 rfl)) (tw lx_6_95 rfl) (tw lx_6_96 rfl) (tw lx_6_94 rfl) hcB rfl hl.1 (by exact Nat.le_of_ble_eq_true rfl) hRA hLoA (by decide) (by decide) ⟨by show nA - 1 + (hB.1 - hA.1) ≤ 600000; rw [zcB]; exact rcB, by show wA + (hB.2.1 - hA.2.1) ≤ 7302250; rw [zsB]; exact rsB⟩ (fun HB locsB hRB hLoB => ?_)
  refine W.cs zcB zsB ?_
  refine W.eq (g2 := F0 m 287 la (xI zB :: [])) rfl ?_
  refine lv_pop hx0 hb dl_287 rfl ?_
  refine lv_goto (tgt := 1513) hx0 hb dl_288 (by decide) ?_
  exact K HB locsB (nB - 1) wB ⟨nB, wB, SB, ZB, hB, hxB, hGB, hRB, hLoB, hl, ⟨by have := hrB.1; omega, hrB.2⟩, rfl, rfl⟩
set_option maxHeartbeats 4000000 in
set_option maxRecDepth 100000 in
theorem lc_1 (C0 : lw_At p s m meth c b L xs) (hL : L ≤ 3072) (A : mx_Wx (tB l D s.heap.size ad s.heap tau) p s m #[Value.ref b] c code 4 R_law) {i : Nat} (hi : i + 6 ≤ L) {ph : Int} (hph : ph ≤ 10489) (hI : lw_I (tB l D s.heap.size ad s.heap tau) s b i ph H locs la cells slots) (K : ∀ (H : Heap) (locs : List Loc) (cells slots : Nat), lw_I (tB l D s.heap.size ad s.heap tau) s b i (ph + 20) H locs la cells slots → W p l e room_1 s m #[Value.ref b] below meth c H locs cells slots Q (F0 m 1513 la [])) : W p l e room_1 s m #[Value.ref b] below meth c H locs cells slots Q (F0 m 291 la []) := by
  obtain ⟨hx0, hb, hr, hml, hown, hts, hX, hbl, hlocks, hgv⟩ := id C0
  obtain ⟨nZ, wZ, SZ, ZZ, hZ, hxZ, hGZ, hRZ, hLoZ, hl, hrZ, rfl, rfl⟩ := hI
  have qZ : 0 ≤ ZZ 1 1 ∧ ZZ 1 1 ≤ 900 := hGZ.pr 1 1
  have hS := lw_S hRZ hLoZ
  refine lv_aload_n hx0 hb dl_291 rfl (lv_at hl 1 rfl) ?_
  refine lw_arg C0 hS hl (j := 1) (x := 1) (by omega) hL (by decide) (by decide +kernel) dl_292 dl_293 dl_294 dl_295 dl_296 ?_
  obtain ⟨zA, nA, wA, SA, ZA, hA, hcA, hxA, hGA, hqA⟩ := sf_90 (l := l) (D := D) (b0 := s.heap.size) (ad := ad) (Hb := s.heap) (tau := tau) (x0 := (xs (i + 1)).toInt) hxZ hGZ (iI_x (xs (i + 1))) (by omega)
  rw [eI (xs (i + 1))] at hcA
  obtain ⟨⟨zcA, zsA⟩, ⟨rcA, rsA⟩, hrA⟩ := lw_room hxZ hxA hGZ hrZ (by omega) hqA (mx_Ca_le hcA)
  refine W.eq (g2 := F0 m 297 la ((([.int (xs (i + 1))] : List Value).map (mx_v (tB l D s.heap.size ad s.heap tau).2.1.1)).reverse ++ .ref (mx_rho (tB l D s.heap.size ad s.heap tau).2.1.1 1) :: [])) rfl ?_
  refine mx_Wcallv (B := (tB l D s.heap.size ad s.heap tau)) (ci := 11) (r := cr_11) (n := 1) A dl_297 me_90 rfl (hxZ.obj (lt83 (GI_n hGZ) rfl) (GI_s hGZ 1 rfl)) (tw lx_2_197 rfl) (tw lx_2_198 rfl) (tw lx_2_196 rfl) hcA rfl hl.1 (by exact Nat.le_of_ble_eq_true rfl) hRZ hLoZ (by decide) (by decide) ⟨by show nZ - 1 + (hA.1 - hZ.1) ≤ 600000; rw [zcA]; exact rcA, by show wZ + (hA.2.1 - hZ.2.1) ≤ 7302250; rw [zsA]; exact rsA⟩ (fun HA locsA hRA hLoA => ?_)
  refine W.cs zcA zsA ?_
  have qA : 0 ≤ ZA 1 1 ∧ ZA 1 1 ≤ 900 := hGA.pr 1 1
  have hS1 := lw_S hRA hLoA
  clear hS
  have hS := hS1
  refine W.eq (g2 := F0 m 300 la (xI zA :: [])) rfl ?_
  refine lv_pop hx0 hb dl_300 rfl ?_
  refine lv_aload_n hx0 hb dl_301 rfl (lv_at hl 2 rfl) ?_
  refine lw_arg C0 hS hl (j := 1) (x := 1) (by omega) hL (by decide) (by decide +kernel) dl_302 dl_303 dl_304 dl_305 dl_306 ?_
  obtain ⟨zB, nB, wB, SB, ZB, hB, hcB, hxB, hGB, hqB⟩ := sf_182 (l := l) (D := D) (b0 := s.heap.size) (ad := ad) (Hb := s.heap) (tau := tau) (x0 := (xs (i + 1)).toInt) hxA hGA (iI_x (xs (i + 1))) (by omega)
  rw [eI (xs (i + 1))] at hcB
  obtain ⟨⟨zcB, zsB⟩, ⟨rcB, rsB⟩, hrB⟩ := lw_room hxA hxB hGA hrA (by omega) hqB (mx_Ca_le hcB)
  refine W.eq (g2 := F0 m 307 la ((([.int (xs (i + 1))] : List Value).map (mx_v (tB l D s.heap.size ad s.heap tau).2.1.1)).reverse ++ .ref (mx_rho (tB l D s.heap.size ad s.heap tau).2.1.1 56) :: [])) rfl ?_
  refine mx_Wcallv (B := (tB l D s.heap.size ad s.heap tau)) (ci := 12) (r := cr_12) (n := 1) A dl_307 me_182 rfl (hxA.obj (lt83 (GI_n hGA) rfl) (GI_s hGA 56 rfl)) (tw lx_6_99 rfl) (tw lx_6_100 rfl) (tw lx_6_98 rfl) hcB rfl hl.1 (by exact Nat.le_of_ble_eq_true rfl) hRA hLoA (by decide) (by decide) ⟨by show nA - 1 + (hB.1 - hA.1) ≤ 600000; rw [zcB]; exact rcB, by show wA + (hB.2.1 - hA.2.1) ≤ 7302250; rw [zsB]; exact rsB⟩ (fun HB locsB hRB hLoB => ?_)
  refine W.cs zcB zsB ?_
  refine W.eq (g2 := F0 m 310 la (xI zB :: [])) rfl ?_
  refine lv_pop hx0 hb dl_310 rfl ?_
  refine lv_goto (tgt := 1513) hx0 hb dl_311 (by decide) ?_
  exact K HB locsB (nB - 1) wB ⟨nB, wB, SB, ZB, hB, hxB, hGB, hRB, hLoB, hl, ⟨by have := hrB.1; omega, hrB.2⟩, rfl, rfl⟩
set_option maxHeartbeats 4000000 in
set_option maxRecDepth 100000 in
theorem lc_2 (C0 : lw_At p s m meth c b L xs) (hL : L ≤ 3072) (A : mx_Wx (tB l D s.heap.size ad s.heap tau) p s m #[Value.ref b] c code 4 R_law) {i : Nat} (hi : i + 6 ≤ L) {ph : Int} (hph : ph ≤ 10489) (hI : lw_I (tB l D s.heap.size ad s.heap tau) s b i ph H locs la cells slots) (K : ∀ (H : Heap) (locs : List Loc) (cells slots : Nat), lw_I (tB l D s.heap.size ad s.heap tau) s b i (ph + 20) H locs la cells slots → W p l e room_1 s m #[Value.ref b] below meth c H locs cells slots Q (F0 m 1513 la [])) : W p l e room_1 s m #[Value.ref b] below meth c H locs cells slots Q (F0 m 314 la []) := by
  obtain ⟨hx0, hb, hr, hml, hown, hts, hX, hbl, hlocks, hgv⟩ := id C0
  obtain ⟨nZ, wZ, SZ, ZZ, hZ, hxZ, hGZ, hRZ, hLoZ, hl, hrZ, rfl, rfl⟩ := hI
  have qZ : 0 ≤ ZZ 1 1 ∧ ZZ 1 1 ≤ 900 := hGZ.pr 1 1
  have hS := lw_S hRZ hLoZ
  refine lv_aload_n hx0 hb dl_314 rfl (lv_at hl 1 rfl) ?_
  refine lw_arg C0 hS hl (j := 1) (x := 1) (by omega) hL (by decide) (by decide +kernel) dl_315 dl_316 dl_317 dl_318 dl_319 ?_
  obtain ⟨zA, nA, wA, SA, ZA, hA, hcA, hxA, hGA, hqA⟩ := sf_91 (l := l) (D := D) (b0 := s.heap.size) (ad := ad) (Hb := s.heap) (tau := tau) (x0 := (xs (i + 1)).toInt) hxZ hGZ (iI_x (xs (i + 1))) (by omega)
  rw [eI (xs (i + 1))] at hcA
  obtain ⟨⟨zcA, zsA⟩, ⟨rcA, rsA⟩, hrA⟩ := lw_room hxZ hxA hGZ hrZ (by omega) hqA (mx_Ca_le hcA)
  refine W.eq (g2 := F0 m 320 la ((([.int (xs (i + 1))] : List Value).map (mx_v (tB l D s.heap.size ad s.heap tau).2.1.1)).reverse ++ .ref (mx_rho (tB l D s.heap.size ad s.heap tau).2.1.1 1) :: [])) rfl ?_
  refine mx_Wcallv (B := (tB l D s.heap.size ad s.heap tau)) (ci := 11) (r := cr_11) (n := 1) A dl_320 me_91 rfl (hxZ.obj (lt83 (GI_n hGZ) rfl) (GI_s hGZ 1 rfl)) (tw lx_3_181 rfl) (tw lx_3_182 rfl) (tw lx_3_180 rfl) hcA rfl hl.1 (by exact Nat.le_of_ble_eq_true rfl) hRZ hLoZ (by decide) (by decide) ⟨by show nZ - 1 + (hA.1 - hZ.1) ≤ 600000; rw [zcA]; exact rcA, by show wZ + (hA.2.1 - hZ.2.1) ≤ 7302250; rw [zsA]; exact rsA⟩ (fun HA locsA hRA hLoA => ?_)
  refine W.cs zcA zsA ?_
  have qA : 0 ≤ ZA 1 1 ∧ ZA 1 1 ≤ 900 := hGA.pr 1 1
  have hS1 := lw_S hRA hLoA
  clear hS
  have hS := hS1
  refine W.eq (g2 := F0 m 323 la (xI zA :: [])) rfl ?_
  refine lv_pop hx0 hb dl_323 rfl ?_
  refine lv_aload_n hx0 hb dl_324 rfl (lv_at hl 2 rfl) ?_
  refine lw_arg C0 hS hl (j := 1) (x := 1) (by omega) hL (by decide) (by decide +kernel) dl_325 dl_326 dl_327 dl_328 dl_329 ?_
  obtain ⟨zB, nB, wB, SB, ZB, hB, hcB, hxB, hGB, hqB⟩ := sf_183 (l := l) (D := D) (b0 := s.heap.size) (ad := ad) (Hb := s.heap) (tau := tau) (x0 := (xs (i + 1)).toInt) hxA hGA (iI_x (xs (i + 1))) (by omega)
  rw [eI (xs (i + 1))] at hcB
  obtain ⟨⟨zcB, zsB⟩, ⟨rcB, rsB⟩, hrB⟩ := lw_room hxA hxB hGA hrA (by omega) hqB (mx_Ca_le hcB)
  refine W.eq (g2 := F0 m 330 la ((([.int (xs (i + 1))] : List Value).map (mx_v (tB l D s.heap.size ad s.heap tau).2.1.1)).reverse ++ .ref (mx_rho (tB l D s.heap.size ad s.heap tau).2.1.1 56) :: [])) rfl ?_
  refine mx_Wcallv (B := (tB l D s.heap.size ad s.heap tau)) (ci := 12) (r := cr_12) (n := 1) A dl_330 me_183 rfl (hxA.obj (lt83 (GI_n hGA) rfl) (GI_s hGA 56 rfl)) (tw lx_6_212 rfl) (tw lx_6_213 rfl) (tw lx_6_211 rfl) hcB rfl hl.1 (by exact Nat.le_of_ble_eq_true rfl) hRA hLoA (by decide) (by decide) ⟨by show nA - 1 + (hB.1 - hA.1) ≤ 600000; rw [zcB]; exact rcB, by show wA + (hB.2.1 - hA.2.1) ≤ 7302250; rw [zsB]; exact rsB⟩ (fun HB locsB hRB hLoB => ?_)
  refine W.cs zcB zsB ?_
  refine W.eq (g2 := F0 m 333 la (xI zB :: [])) rfl ?_
  refine lv_pop hx0 hb dl_333 rfl ?_
  refine lv_goto (tgt := 1513) hx0 hb dl_334 (by decide) ?_
  exact K HB locsB (nB - 1) wB ⟨nB, wB, SB, ZB, hB, hxB, hGB, hRB, hLoB, hl, ⟨by have := hrB.1; omega, hrB.2⟩, rfl, rfl⟩
set_option maxHeartbeats 4000000 in
set_option maxRecDepth 100000 in
theorem lc_3 (C0 : lw_At p s m meth c b L xs) (hL : L ≤ 3072) (A : mx_Wx (tB l D s.heap.size ad s.heap tau) p s m #[Value.ref b] c code 4 R_law) {i : Nat} (hi : i + 6 ≤ L) {ph : Int} (hph : ph ≤ 10489) (hI : lw_I (tB l D s.heap.size ad s.heap tau) s b i ph H locs la cells slots) (K : ∀ (H : Heap) (locs : List Loc) (cells slots : Nat), lw_I (tB l D s.heap.size ad s.heap tau) s b i (ph + 20) H locs la cells slots → W p l e room_1 s m #[Value.ref b] below meth c H locs cells slots Q (F0 m 1513 la [])) : W p l e room_1 s m #[Value.ref b] below meth c H locs cells slots Q (F0 m 337 la []) := by
  obtain ⟨hx0, hb, hr, hml, hown, hts, hX, hbl, hlocks, hgv⟩ := id C0
  obtain ⟨nZ, wZ, SZ, ZZ, hZ, hxZ, hGZ, hRZ, hLoZ, hl, hrZ, rfl, rfl⟩ := hI
  have qZ : 0 ≤ ZZ 1 1 ∧ ZZ 1 1 ≤ 900 := hGZ.pr 1 1
  have hS := lw_S hRZ hLoZ
  refine lv_aload_n hx0 hb dl_337 rfl (lv_at hl 1 rfl) ?_
  refine lw_arg C0 hS hl (j := 1) (x := 1) (by omega) hL (by decide) (by decide +kernel) dl_338 dl_339 dl_340 dl_341 dl_342 ?_
  obtain ⟨zA, nA, wA, SA, ZA, hA, hcA, hxA, hGA, hqA⟩ := sf_92 (l := l) (D := D) (b0 := s.heap.size) (ad := ad) (Hb := s.heap) (tau := tau) (x0 := (xs (i + 1)).toInt) hxZ hGZ (iI_x (xs (i + 1))) (by omega)
  rw [eI (xs (i + 1))] at hcA
  obtain ⟨⟨zcA, zsA⟩, ⟨rcA, rsA⟩, hrA⟩ := lw_room hxZ hxA hGZ hrZ (by omega) hqA (mx_Ca_le hcA)
  refine W.eq (g2 := F0 m 343 la ((([.int (xs (i + 1))] : List Value).map (mx_v (tB l D s.heap.size ad s.heap tau).2.1.1)).reverse ++ .ref (mx_rho (tB l D s.heap.size ad s.heap tau).2.1.1 1) :: [])) rfl ?_
  refine mx_Wcallv (B := (tB l D s.heap.size ad s.heap tau)) (ci := 11) (r := cr_11) (n := 1) A dl_343 me_92 rfl (hxZ.obj (lt83 (GI_n hGZ) rfl) (GI_s hGZ 1 rfl)) (tw lx_3_185 rfl) (tw lx_3_186 rfl) (tw lx_3_184 rfl) hcA rfl hl.1 (by exact Nat.le_of_ble_eq_true rfl) hRZ hLoZ (by decide) (by decide) ⟨by show nZ - 1 + (hA.1 - hZ.1) ≤ 600000; rw [zcA]; exact rcA, by show wZ + (hA.2.1 - hZ.2.1) ≤ 7302250; rw [zsA]; exact rsA⟩ (fun HA locsA hRA hLoA => ?_)
  refine W.cs zcA zsA ?_
  have qA : 0 ≤ ZA 1 1 ∧ ZA 1 1 ≤ 900 := hGA.pr 1 1
  have hS1 := lw_S hRA hLoA
  clear hS
  have hS := hS1
  refine W.eq (g2 := F0 m 346 la (xI zA :: [])) rfl ?_
  refine lv_pop hx0 hb dl_346 rfl ?_
  refine lv_aload_n hx0 hb dl_347 rfl (lv_at hl 2 rfl) ?_
  refine lw_arg C0 hS hl (j := 1) (x := 1) (by omega) hL (by decide) (by decide +kernel) dl_348 dl_349 dl_350 dl_351 dl_352 ?_
  obtain ⟨zB, nB, wB, SB, ZB, hB, hcB, hxB, hGB, hqB⟩ := sf_199 (l := l) (D := D) (b0 := s.heap.size) (ad := ad) (Hb := s.heap) (tau := tau) (x0 := (xs (i + 1)).toInt) hxA hGA (iI_x (xs (i + 1))) (by omega)
  rw [eI (xs (i + 1))] at hcB
  obtain ⟨⟨zcB, zsB⟩, ⟨rcB, rsB⟩, hrB⟩ := lw_room hxA hxB hGA hrA (by omega) hqB (mx_Ca_le hcB)
  refine W.eq (g2 := F0 m 353 la ((([.int (xs (i + 1))] : List Value).map (mx_v (tB l D s.heap.size ad s.heap tau).2.1.1)).reverse ++ .ref (mx_rho (tB l D s.heap.size ad s.heap tau).2.1.1 56) :: [])) rfl ?_
  refine mx_Wcallv (B := (tB l D s.heap.size ad s.heap tau)) (ci := 12) (r := cr_12) (n := 1) A dl_353 me_199 rfl (hxA.obj (lt83 (GI_n hGA) rfl) (GI_s hGA 56 rfl)) (tw lx_6_216 rfl) (tw lx_6_217 rfl) (tw lx_6_215 rfl) hcB rfl hl.1 (by exact Nat.le_of_ble_eq_true rfl) hRA hLoA (by decide) (by decide) ⟨by show nA - 1 + (hB.1 - hA.1) ≤ 600000; rw [zcB]; exact rcB, by show wA + (hB.2.1 - hA.2.1) ≤ 7302250; rw [zsB]; exact rsB⟩ (fun HB locsB hRB hLoB => ?_)
  refine W.cs zcB zsB ?_
  refine W.eq (g2 := F0 m 356 la (xI zB :: [])) rfl ?_
  refine lv_pop hx0 hb dl_356 rfl ?_
  refine lv_goto (tgt := 1513) hx0 hb dl_357 (by decide) ?_
  exact K HB locsB (nB - 1) wB ⟨nB, wB, SB, ZB, hB, hxB, hGB, hRB, hLoB, hl, ⟨by have := hrB.1; omega, hrB.2⟩, rfl, rfl⟩
set_option maxHeartbeats 4000000 in
set_option maxRecDepth 100000 in
theorem lc_4 (C0 : lw_At p s m meth c b L xs) (hL : L ≤ 3072) (A : mx_Wx (tB l D s.heap.size ad s.heap tau) p s m #[Value.ref b] c code 4 R_law) {i : Nat} (hi : i + 6 ≤ L) {ph : Int} (hph : ph ≤ 10489) (hI : lw_I (tB l D s.heap.size ad s.heap tau) s b i ph H locs la cells slots) (K : ∀ (H : Heap) (locs : List Loc) (cells slots : Nat), lw_I (tB l D s.heap.size ad s.heap tau) s b i (ph + 20) H locs la cells slots → W p l e room_1 s m #[Value.ref b] below meth c H locs cells slots Q (F0 m 1513 la [])) : W p l e room_1 s m #[Value.ref b] below meth c H locs cells slots Q (F0 m 360 la []) := by
  obtain ⟨hx0, hb, hr, hml, hown, hts, hX, hbl, hlocks, hgv⟩ := id C0
  obtain ⟨nZ, wZ, SZ, ZZ, hZ, hxZ, hGZ, hRZ, hLoZ, hl, hrZ, rfl, rfl⟩ := hI
  have qZ : 0 ≤ ZZ 1 1 ∧ ZZ 1 1 ≤ 900 := hGZ.pr 1 1
  have hS := lw_S hRZ hLoZ
  refine lv_aload_n hx0 hb dl_360 rfl (lv_at hl 1 rfl) ?_
  refine lw_arg C0 hS hl (j := 1) (x := 1) (by omega) hL (by decide) (by decide +kernel) dl_361 dl_362 dl_363 dl_364 dl_365 ?_
  obtain ⟨zA, nA, wA, SA, ZA, hA, hcA, hxA, hGA, hqA⟩ := sf_93 (l := l) (D := D) (b0 := s.heap.size) (ad := ad) (Hb := s.heap) (tau := tau) (x0 := (xs (i + 1)).toInt) hxZ hGZ (iI_x (xs (i + 1))) (by omega)
  rw [eI (xs (i + 1))] at hcA
  obtain ⟨⟨zcA, zsA⟩, ⟨rcA, rsA⟩, hrA⟩ := lw_room hxZ hxA hGZ hrZ (by omega) hqA (mx_Ca_le hcA)
  refine W.eq (g2 := F0 m 366 la ((([.int (xs (i + 1))] : List Value).map (mx_v (tB l D s.heap.size ad s.heap tau).2.1.1)).reverse ++ .ref (mx_rho (tB l D s.heap.size ad s.heap tau).2.1.1 1) :: [])) rfl ?_
  refine mx_Wcallv (B := (tB l D s.heap.size ad s.heap tau)) (ci := 11) (r := cr_11) (n := 1) A dl_366 me_93 rfl (hxZ.obj (lt83 (GI_n hGZ) rfl) (GI_s hGZ 1 rfl)) (tw lx_3_198 rfl) (tw lx_3_199 rfl) (tw lx_3_197 rfl) hcA rfl hl.1 (by exact Nat.le_of_ble_eq_true rfl) hRZ hLoZ (by decide) (by decide) ⟨by show nZ - 1 + (hA.1 - hZ.1) ≤ 600000; rw [zcA]; exact rcA, by show wZ + (hA.2.1 - hZ.2.1) ≤ 7302250; rw [zsA]; exact rsA⟩ (fun HA locsA hRA hLoA => ?_)
  refine W.cs zcA zsA ?_
  have qA : 0 ≤ ZA 1 1 ∧ ZA 1 1 ≤ 900 := hGA.pr 1 1
  have hS1 := lw_S hRA hLoA
  clear hS
  have hS := hS1
  refine W.eq (g2 := F0 m 369 la (xI zA :: [])) rfl ?_
  refine lv_pop hx0 hb dl_369 rfl ?_
  refine lv_aload_n hx0 hb dl_370 rfl (lv_at hl 2 rfl) ?_
  refine lw_arg C0 hS hl (j := 1) (x := 1) (by omega) hL (by decide) (by decide +kernel) dl_371 dl_372 dl_373 dl_374 dl_375 ?_
  obtain ⟨zB, nB, wB, SB, ZB, hB, hcB, hxB, hGB, hqB⟩ := sf_200 (l := l) (D := D) (b0 := s.heap.size) (ad := ad) (Hb := s.heap) (tau := tau) (x0 := (xs (i + 1)).toInt) hxA hGA (iI_x (xs (i + 1))) (by omega)
  rw [eI (xs (i + 1))] at hcB
  obtain ⟨⟨zcB, zsB⟩, ⟨rcB, rsB⟩, hrB⟩ := lw_room hxA hxB hGA hrA (by omega) hqB (mx_Ca_le hcB)
  refine W.eq (g2 := F0 m 376 la ((([.int (xs (i + 1))] : List Value).map (mx_v (tB l D s.heap.size ad s.heap tau).2.1.1)).reverse ++ .ref (mx_rho (tB l D s.heap.size ad s.heap tau).2.1.1 56) :: [])) rfl ?_
  refine mx_Wcallv (B := (tB l D s.heap.size ad s.heap tau)) (ci := 12) (r := cr_12) (n := 1) A dl_376 me_200 rfl (hxA.obj (lt83 (GI_n hGA) rfl) (GI_s hGA 56 rfl)) (tw lx_6_228 rfl) (tw lx_6_229 rfl) (tw lx_6_227 rfl) hcB rfl hl.1 (by exact Nat.le_of_ble_eq_true rfl) hRA hLoA (by decide) (by decide) ⟨by show nA - 1 + (hB.1 - hA.1) ≤ 600000; rw [zcB]; exact rcB, by show wA + (hB.2.1 - hA.2.1) ≤ 7302250; rw [zsB]; exact rsB⟩ (fun HB locsB hRB hLoB => ?_)
  refine W.cs zcB zsB ?_
  refine W.eq (g2 := F0 m 379 la (xI zB :: [])) rfl ?_
  refine lv_pop hx0 hb dl_379 rfl ?_
  refine lv_goto (tgt := 1513) hx0 hb dl_380 (by decide) ?_
  exact K HB locsB (nB - 1) wB ⟨nB, wB, SB, ZB, hB, hxB, hGB, hRB, hLoB, hl, ⟨by have := hrB.1; omega, hrB.2⟩, rfl, rfl⟩
set_option maxHeartbeats 4000000 in
set_option maxRecDepth 100000 in
theorem lc_5 (C0 : lw_At p s m meth c b L xs) (hL : L ≤ 3072) (A : mx_Wx (tB l D s.heap.size ad s.heap tau) p s m #[Value.ref b] c code 4 R_law) {i : Nat} (hi : i + 6 ≤ L) {ph : Int} (hph : ph ≤ 10489) (hI : lw_I (tB l D s.heap.size ad s.heap tau) s b i ph H locs la cells slots) (K : ∀ (H : Heap) (locs : List Loc) (cells slots : Nat), lw_I (tB l D s.heap.size ad s.heap tau) s b i (ph + 20) H locs la cells slots → W p l e room_1 s m #[Value.ref b] below meth c H locs cells slots Q (F0 m 1513 la [])) : W p l e room_1 s m #[Value.ref b] below meth c H locs cells slots Q (F0 m 383 la []) := by
  obtain ⟨hx0, hb, hr, hml, hown, hts, hX, hbl, hlocks, hgv⟩ := id C0
  obtain ⟨nZ, wZ, SZ, ZZ, hZ, hxZ, hGZ, hRZ, hLoZ, hl, hrZ, rfl, rfl⟩ := hI
  have qZ : 0 ≤ ZZ 1 1 ∧ ZZ 1 1 ≤ 900 := hGZ.pr 1 1
  have hS := lw_S hRZ hLoZ
  refine lv_aload_n hx0 hb dl_383 rfl (lv_at hl 1 rfl) ?_
  refine lw_arg C0 hS hl (j := 1) (x := 1) (by omega) hL (by decide) (by decide +kernel) dl_384 dl_385 dl_386 dl_387 dl_388 ?_
  refine lw_arg C0 hS hl (j := 2) (x := 2) (by omega) hL (by decide) (by decide +kernel) dl_389 dl_390 dl_391 dl_392 dl_393 ?_
  obtain ⟨zA, nA, wA, SA, ZA, hA, hcA, hxA, hGA, hqA⟩ := sf_94 (l := l) (D := D) (b0 := s.heap.size) (ad := ad) (Hb := s.heap) (tau := tau) (x0 := (xs (i + 1)).toInt) (x1 := (xs (i + 2)).toInt) hxZ hGZ (iI_x (xs (i + 1))) (iI_x (xs (i + 2))) (by omega)
  rw [eI (xs (i + 1)), eI (xs (i + 2))] at hcA
  obtain ⟨⟨zcA, zsA⟩, ⟨rcA, rsA⟩, hrA⟩ := lw_room hxZ hxA hGZ hrZ (by omega) hqA (mx_Ca_le hcA)
  refine W.eq (g2 := F0 m 394 la ((([.int (xs (i + 1)), .int (xs (i + 2))] : List Value).map (mx_v (tB l D s.heap.size ad s.heap tau).2.1.1)).reverse ++ .ref (mx_rho (tB l D s.heap.size ad s.heap tau).2.1.1 1) :: [])) rfl ?_
  refine mx_Wcallv (B := (tB l D s.heap.size ad s.heap tau)) (ci := 11) (r := cr_11) (n := 2) A dl_394 me_94 rfl (hxZ.obj (lt83 (GI_n hGZ) rfl) (GI_s hGZ 1 rfl)) (tw lx_3_214 rfl) (tw lx_3_215 rfl) (tw lx_3_213 rfl) hcA rfl hl.1 (by exact Nat.le_of_ble_eq_true rfl) hRZ hLoZ (by decide) (by decide) ⟨by show nZ - 1 + (hA.1 - hZ.1) ≤ 600000; rw [zcA]; exact rcA, by show wZ + (hA.2.1 - hZ.2.1) ≤ 7302250; rw [zsA]; exact rsA⟩ (fun HA locsA hRA hLoA => ?_)
  refine W.cs zcA zsA ?_
  have qA : 0 ≤ ZA 1 1 ∧ ZA 1 1 ≤ 900 := hGA.pr 1 1
  have hS1 := lw_S hRA hLoA
  clear hS
  have hS := hS1
  refine W.eq (g2 := F0 m 397 la (xI zA :: [])) rfl ?_
  refine lv_pop hx0 hb dl_397 rfl ?_
  refine lv_aload_n hx0 hb dl_398 rfl (lv_at hl 2 rfl) ?_
  refine lw_arg C0 hS hl (j := 1) (x := 1) (by omega) hL (by decide) (by decide +kernel) dl_399 dl_400 dl_401 dl_402 dl_403 ?_
  refine lw_arg C0 hS hl (j := 2) (x := 2) (by omega) hL (by decide) (by decide +kernel) dl_404 dl_405 dl_406 dl_407 dl_408 ?_
  obtain ⟨zB, nB, wB, SB, ZB, hB, hcB, hxB, hGB, hqB⟩ := sf_201 (l := l) (D := D) (b0 := s.heap.size) (ad := ad) (Hb := s.heap) (tau := tau) (x0 := (xs (i + 1)).toInt) (x1 := (xs (i + 2)).toInt) hxA hGA (iI_x (xs (i + 1))) (iI_x (xs (i + 2))) (by omega)
  rw [eI (xs (i + 1)), eI (xs (i + 2))] at hcB
  obtain ⟨⟨zcB, zsB⟩, ⟨rcB, rsB⟩, hrB⟩ := lw_room hxA hxB hGA hrA (by omega) hqB (mx_Ca_le hcB)
  refine W.eq (g2 := F0 m 409 la ((([.int (xs (i + 1)), .int (xs (i + 2))] : List Value).map (mx_v (tB l D s.heap.size ad s.heap tau).2.1.1)).reverse ++ .ref (mx_rho (tB l D s.heap.size ad s.heap tau).2.1.1 56) :: [])) rfl ?_
  refine mx_Wcallv (B := (tB l D s.heap.size ad s.heap tau)) (ci := 12) (r := cr_12) (n := 2) A dl_409 me_201 rfl (hxA.obj (lt83 (GI_n hGA) rfl) (GI_s hGA 56 rfl)) (tw lx_7_5 rfl) (tw lx_7_6 rfl) (tw lx_7_4 rfl) hcB rfl hl.1 (by exact Nat.le_of_ble_eq_true rfl) hRA hLoA (by decide) (by decide) ⟨by show nA - 1 + (hB.1 - hA.1) ≤ 600000; rw [zcB]; exact rcB, by show wA + (hB.2.1 - hA.2.1) ≤ 7302250; rw [zsB]; exact rsB⟩ (fun HB locsB hRB hLoB => ?_)
  refine W.cs zcB zsB ?_
  refine W.eq (g2 := F0 m 412 la (xI zB :: [])) rfl ?_
  refine lv_pop hx0 hb dl_412 rfl ?_
  refine lv_goto (tgt := 1513) hx0 hb dl_413 (by decide) ?_
  exact K HB locsB (nB - 1) wB ⟨nB, wB, SB, ZB, hB, hxB, hGB, hRB, hLoB, hl, ⟨by have := hrB.1; omega, hrB.2⟩, rfl, rfl⟩
set_option maxHeartbeats 4000000 in
set_option maxRecDepth 100000 in
theorem lc_6 (C0 : lw_At p s m meth c b L xs) (hL : L ≤ 3072) (A : mx_Wx (tB l D s.heap.size ad s.heap tau) p s m #[Value.ref b] c code 4 R_law) {i : Nat} (hi : i + 6 ≤ L) {ph : Int} (hph : ph ≤ 10489) (hI : lw_I (tB l D s.heap.size ad s.heap tau) s b i ph H locs la cells slots) (K : ∀ (H : Heap) (locs : List Loc) (cells slots : Nat), lw_I (tB l D s.heap.size ad s.heap tau) s b i (ph + 20) H locs la cells slots → W p l e room_1 s m #[Value.ref b] below meth c H locs cells slots Q (F0 m 1513 la [])) : W p l e room_1 s m #[Value.ref b] below meth c H locs cells slots Q (F0 m 416 la []) := by
  obtain ⟨hx0, hb, hr, hml, hown, hts, hX, hbl, hlocks, hgv⟩ := id C0
  obtain ⟨nZ, wZ, SZ, ZZ, hZ, hxZ, hGZ, hRZ, hLoZ, hl, hrZ, rfl, rfl⟩ := hI
  have qZ : 0 ≤ ZZ 1 1 ∧ ZZ 1 1 ≤ 900 := hGZ.pr 1 1
  have hS := lw_S hRZ hLoZ
  refine lv_aload_n hx0 hb dl_416 rfl (lv_at hl 1 rfl) ?_
  refine lw_arg C0 hS hl (j := 1) (x := 1) (by omega) hL (by decide) (by decide +kernel) dl_417 dl_418 dl_419 dl_420 dl_421 ?_
  obtain ⟨zA, nA, wA, SA, ZA, hA, hcA, hxA, hGA, hqA⟩ := sf_95 (l := l) (D := D) (b0 := s.heap.size) (ad := ad) (Hb := s.heap) (tau := tau) (x0 := (xs (i + 1)).toInt) hxZ hGZ (iI_x (xs (i + 1))) (by omega)
  rw [eI (xs (i + 1))] at hcA
  obtain ⟨⟨zcA, zsA⟩, ⟨rcA, rsA⟩, hrA⟩ := lw_room hxZ hxA hGZ hrZ (by omega) hqA (mx_Ca_le hcA)
  refine W.eq (g2 := F0 m 422 la ((([.int (xs (i + 1))] : List Value).map (mx_v (tB l D s.heap.size ad s.heap tau).2.1.1)).reverse ++ .ref (mx_rho (tB l D s.heap.size ad s.heap tau).2.1.1 1) :: [])) rfl ?_
  refine mx_Wcallv (B := (tB l D s.heap.size ad s.heap tau)) (ci := 11) (r := cr_11) (n := 1) A dl_422 me_95 rfl (hxZ.obj (lt83 (GI_n hGZ) rfl) (GI_s hGZ 1 rfl)) (tw lx_3_235 rfl) (tw lx_3_236 rfl) (tw lx_3_234 rfl) hcA rfl hl.1 (by exact Nat.le_of_ble_eq_true rfl) hRZ hLoZ (by decide) (by decide) ⟨by show nZ - 1 + (hA.1 - hZ.1) ≤ 600000; rw [zcA]; exact rcA, by show wZ + (hA.2.1 - hZ.2.1) ≤ 7302250; rw [zsA]; exact rsA⟩ (fun HA locsA hRA hLoA => ?_)
  refine W.cs zcA zsA ?_
  have qA : 0 ≤ ZA 1 1 ∧ ZA 1 1 ≤ 900 := hGA.pr 1 1
  have hS1 := lw_S hRA hLoA
  clear hS
  have hS := hS1
  refine W.eq (g2 := F0 m 425 la (xI zA :: [])) rfl ?_
  refine lv_pop hx0 hb dl_425 rfl ?_
  refine lv_aload_n hx0 hb dl_426 rfl (lv_at hl 2 rfl) ?_
  refine lw_arg C0 hS hl (j := 1) (x := 1) (by omega) hL (by decide) (by decide +kernel) dl_427 dl_428 dl_429 dl_430 dl_431 ?_
  obtain ⟨zB, nB, wB, SB, ZB, hB, hcB, hxB, hGB, hqB⟩ := sf_206 (l := l) (D := D) (b0 := s.heap.size) (ad := ad) (Hb := s.heap) (tau := tau) (x0 := (xs (i + 1)).toInt) hxA hGA (iI_x (xs (i + 1))) (by omega)
  rw [eI (xs (i + 1))] at hcB
  obtain ⟨⟨zcB, zsB⟩, ⟨rcB, rsB⟩, hrB⟩ := lw_room hxA hxB hGA hrA (by omega) hqB (mx_Ca_le hcB)
  refine W.eq (g2 := F0 m 432 la ((([.int (xs (i + 1))] : List Value).map (mx_v (tB l D s.heap.size ad s.heap tau).2.1.1)).reverse ++ .ref (mx_rho (tB l D s.heap.size ad s.heap tau).2.1.1 56) :: [])) rfl ?_
  refine mx_Wcallv (B := (tB l D s.heap.size ad s.heap tau)) (ci := 12) (r := cr_12) (n := 1) A dl_432 me_206 rfl (hxA.obj (lt83 (GI_n hGA) rfl) (GI_s hGA 56 rfl)) (tw lx_7_27 rfl) (tw lx_7_28 rfl) (tw lx_7_26 rfl) hcB rfl hl.1 (by exact Nat.le_of_ble_eq_true rfl) hRA hLoA (by decide) (by decide) ⟨by show nA - 1 + (hB.1 - hA.1) ≤ 600000; rw [zcB]; exact rcB, by show wA + (hB.2.1 - hA.2.1) ≤ 7302250; rw [zsB]; exact rsB⟩ (fun HB locsB hRB hLoB => ?_)
  refine W.cs zcB zsB ?_
  refine W.eq (g2 := F0 m 435 la (xI zB :: [])) rfl ?_
  refine lv_pop hx0 hb dl_435 rfl ?_
  refine lv_goto (tgt := 1513) hx0 hb dl_436 (by decide) ?_
  exact K HB locsB (nB - 1) wB ⟨nB, wB, SB, ZB, hB, hxB, hGB, hRB, hLoB, hl, ⟨by have := hrB.1; omega, hrB.2⟩, rfl, rfl⟩
set_option maxHeartbeats 4000000 in
set_option maxRecDepth 100000 in
theorem lc_7 (C0 : lw_At p s m meth c b L xs) (hL : L ≤ 3072) (A : mx_Wx (tB l D s.heap.size ad s.heap tau) p s m #[Value.ref b] c code 4 R_law) {i : Nat} (hi : i + 6 ≤ L) {ph : Int} (hph : ph ≤ 10489) (hI : lw_I (tB l D s.heap.size ad s.heap tau) s b i ph H locs la cells slots) (K : ∀ (H : Heap) (locs : List Loc) (cells slots : Nat), lw_I (tB l D s.heap.size ad s.heap tau) s b i (ph + 20) H locs la cells slots → W p l e room_1 s m #[Value.ref b] below meth c H locs cells slots Q (F0 m 1513 la [])) : W p l e room_1 s m #[Value.ref b] below meth c H locs cells slots Q (F0 m 439 la []) := by
  obtain ⟨hx0, hb, hr, hml, hown, hts, hX, hbl, hlocks, hgv⟩ := id C0
  obtain ⟨nZ, wZ, SZ, ZZ, hZ, hxZ, hGZ, hRZ, hLoZ, hl, hrZ, rfl, rfl⟩ := hI
  have qZ : 0 ≤ ZZ 1 1 ∧ ZZ 1 1 ≤ 900 := hGZ.pr 1 1
  have hS := lw_S hRZ hLoZ
  refine lv_aload_n hx0 hb dl_439 rfl (lv_at hl 1 rfl) ?_
  refine lw_arg C0 hS hl (j := 1) (x := 1) (by omega) hL (by decide) (by decide +kernel) dl_440 dl_441 dl_442 dl_443 dl_444 ?_
  obtain ⟨zA, nA, wA, SA, ZA, hA, hcA, hxA, hGA, hqA⟩ := sf_96 (l := l) (D := D) (b0 := s.heap.size) (ad := ad) (Hb := s.heap) (tau := tau) (x0 := (xs (i + 1)).toInt) hxZ hGZ (iI_x (xs (i + 1))) (by omega)
  rw [eI (xs (i + 1))] at hcA
  obtain ⟨⟨zcA, zsA⟩, ⟨rcA, rsA⟩, hrA⟩ := lw_room hxZ hxA hGZ hrZ (by omega) hqA (mx_Ca_le hcA)
  refine W.eq (g2 := F0 m 445 la ((([.int (xs (i + 1))] : List Value).map (mx_v (tB l D s.heap.size ad s.heap tau).2.1.1)).reverse ++ .ref (mx_rho (tB l D s.heap.size ad s.heap tau).2.1.1 1) :: [])) rfl ?_
  refine mx_Wcallv (B := (tB l D s.heap.size ad s.heap tau)) (ci := 11) (r := cr_11) (n := 1) A dl_445 me_96 rfl (hxZ.obj (lt83 (GI_n hGZ) rfl) (GI_s hGZ 1 rfl)) (tw lx_4_24 rfl) (tw lx_4_25 rfl) (tw lx_4_23 rfl) hcA rfl hl.1 (by exact Nat.le_of_ble_eq_true rfl) hRZ hLoZ (by decide) (by decide) ⟨by show nZ - 1 + (hA.1 - hZ.1) ≤ 600000; rw [zcA]; exact rcA, by show wZ + (hA.2.1 - hZ.2.1) ≤ 7302250; rw [zsA]; exact rsA⟩ (fun HA locsA hRA hLoA => ?_)
  refine W.cs zcA zsA ?_
  have qA : 0 ≤ ZA 1 1 ∧ ZA 1 1 ≤ 900 := hGA.pr 1 1
  have hS1 := lw_S hRA hLoA
  clear hS
  have hS := hS1
  refine W.eq (g2 := F0 m 448 la (xI zA :: [])) rfl ?_
  refine lv_pop hx0 hb dl_448 rfl ?_
  refine lv_aload_n hx0 hb dl_449 rfl (lv_at hl 2 rfl) ?_
  refine lw_arg C0 hS hl (j := 1) (x := 1) (by omega) hL (by decide) (by decide +kernel) dl_450 dl_451 dl_452 dl_453 dl_454 ?_
  obtain ⟨zB, nB, wB, SB, ZB, hB, hcB, hxB, hGB, hqB⟩ := sf_207 (l := l) (D := D) (b0 := s.heap.size) (ad := ad) (Hb := s.heap) (tau := tau) (x0 := (xs (i + 1)).toInt) hxA hGA (iI_x (xs (i + 1))) (by omega)
  rw [eI (xs (i + 1))] at hcB
  obtain ⟨⟨zcB, zsB⟩, ⟨rcB, rsB⟩, hrB⟩ := lw_room hxA hxB hGA hrA (by omega) hqB (mx_Ca_le hcB)
  refine W.eq (g2 := F0 m 455 la ((([.int (xs (i + 1))] : List Value).map (mx_v (tB l D s.heap.size ad s.heap tau).2.1.1)).reverse ++ .ref (mx_rho (tB l D s.heap.size ad s.heap tau).2.1.1 56) :: [])) rfl ?_
  refine mx_Wcallv (B := (tB l D s.heap.size ad s.heap tau)) (ci := 12) (r := cr_12) (n := 1) A dl_455 me_207 rfl (hxA.obj (lt83 (GI_n hGA) rfl) (GI_s hGA 56 rfl)) (tw lx_7_43 rfl) (tw lx_7_44 rfl) (tw lx_7_42 rfl) hcB rfl hl.1 (by exact Nat.le_of_ble_eq_true rfl) hRA hLoA (by decide) (by decide) ⟨by show nA - 1 + (hB.1 - hA.1) ≤ 600000; rw [zcB]; exact rcB, by show wA + (hB.2.1 - hA.2.1) ≤ 7302250; rw [zsB]; exact rsB⟩ (fun HB locsB hRB hLoB => ?_)
  refine W.cs zcB zsB ?_
  refine W.eq (g2 := F0 m 458 la (xI zB :: [])) rfl ?_
  refine lv_pop hx0 hb dl_458 rfl ?_
  refine lv_goto (tgt := 1513) hx0 hb dl_459 (by decide) ?_
  exact K HB locsB (nB - 1) wB ⟨nB, wB, SB, ZB, hB, hxB, hGB, hRB, hLoB, hl, ⟨by have := hrB.1; omega, hrB.2⟩, rfl, rfl⟩
set_option maxHeartbeats 4000000 in
set_option maxRecDepth 100000 in
theorem lc_8 (C0 : lw_At p s m meth c b L xs) (hL : L ≤ 3072) (A : mx_Wx (tB l D s.heap.size ad s.heap tau) p s m #[Value.ref b] c code 4 R_law) {i : Nat} (hi : i + 6 ≤ L) {ph : Int} (hph : ph ≤ 10489) (hI : lw_I (tB l D s.heap.size ad s.heap tau) s b i ph H locs la cells slots) (K : ∀ (H : Heap) (locs : List Loc) (cells slots : Nat), lw_I (tB l D s.heap.size ad s.heap tau) s b i (ph + 20) H locs la cells slots → W p l e room_1 s m #[Value.ref b] below meth c H locs cells slots Q (F0 m 1513 la [])) : W p l e room_1 s m #[Value.ref b] below meth c H locs cells slots Q (F0 m 462 la []) := by
  obtain ⟨hx0, hb, hr, hml, hown, hts, hX, hbl, hlocks, hgv⟩ := id C0
  obtain ⟨nZ, wZ, SZ, ZZ, hZ, hxZ, hGZ, hRZ, hLoZ, hl, hrZ, rfl, rfl⟩ := hI
  have qZ : 0 ≤ ZZ 1 1 ∧ ZZ 1 1 ≤ 900 := hGZ.pr 1 1
  have hS := lw_S hRZ hLoZ
  refine lv_aload_n hx0 hb dl_462 rfl (lv_at hl 1 rfl) ?_
  refine lw_arg C0 hS hl (j := 1) (x := 1) (by omega) hL (by decide) (by decide +kernel) dl_463 dl_464 dl_465 dl_466 dl_467 ?_
  refine lw_arg C0 hS hl (j := 2) (x := 2) (by omega) hL (by decide) (by decide +kernel) dl_468 dl_469 dl_470 dl_471 dl_472 ?_
  obtain ⟨zA, nA, wA, SA, ZA, hA, hcA, hxA, hGA, hqA⟩ := sf_97 (l := l) (D := D) (b0 := s.heap.size) (ad := ad) (Hb := s.heap) (tau := tau) (x0 := (xs (i + 1)).toInt) (x1 := (xs (i + 2)).toInt) hxZ hGZ (iI_x (xs (i + 1))) (iI_x (xs (i + 2))) (by omega)
  rw [eI (xs (i + 1)), eI (xs (i + 2))] at hcA
  obtain ⟨⟨zcA, zsA⟩, ⟨rcA, rsA⟩, hrA⟩ := lw_room hxZ hxA hGZ hrZ (by omega) hqA (mx_Ca_le hcA)
  refine W.eq (g2 := F0 m 473 la ((([.int (xs (i + 1)), .int (xs (i + 2))] : List Value).map (mx_v (tB l D s.heap.size ad s.heap tau).2.1.1)).reverse ++ .ref (mx_rho (tB l D s.heap.size ad s.heap tau).2.1.1 1) :: [])) rfl ?_
  refine mx_Wcallv (B := (tB l D s.heap.size ad s.heap tau)) (ci := 11) (r := cr_11) (n := 2) A dl_473 me_97 rfl (hxZ.obj (lt83 (GI_n hGZ) rfl) (GI_s hGZ 1 rfl)) (tw lx_4_28 rfl) (tw lx_4_29 rfl) (tw lx_4_27 rfl) hcA rfl hl.1 (by exact Nat.le_of_ble_eq_true rfl) hRZ hLoZ (by decide) (by decide) ⟨by show nZ - 1 + (hA.1 - hZ.1) ≤ 600000; rw [zcA]; exact rcA, by show wZ + (hA.2.1 - hZ.2.1) ≤ 7302250; rw [zsA]; exact rsA⟩ (fun HA locsA hRA hLoA => ?_)
  refine W.cs zcA zsA ?_
  have qA : 0 ≤ ZA 1 1 ∧ ZA 1 1 ≤ 900 := hGA.pr 1 1
  have hS1 := lw_S hRA hLoA
  clear hS
  have hS := hS1
  refine W.eq (g2 := F0 m 476 la (xI zA :: [])) rfl ?_
  refine lv_pop hx0 hb dl_476 rfl ?_
  refine lv_aload_n hx0 hb dl_477 rfl (lv_at hl 2 rfl) ?_
  refine lw_arg C0 hS hl (j := 1) (x := 1) (by omega) hL (by decide) (by decide +kernel) dl_478 dl_479 dl_480 dl_481 dl_482 ?_
  refine lw_arg C0 hS hl (j := 2) (x := 2) (by omega) hL (by decide) (by decide +kernel) dl_483 dl_484 dl_485 dl_486 dl_487 ?_
  obtain ⟨zB, nB, wB, SB, ZB, hB, hcB, hxB, hGB, hqB⟩ := sf_211 (l := l) (D := D) (b0 := s.heap.size) (ad := ad) (Hb := s.heap) (tau := tau) (x0 := (xs (i + 1)).toInt) (x1 := (xs (i + 2)).toInt) hxA hGA (iI_x (xs (i + 1))) (iI_x (xs (i + 2))) (by omega)
  rw [eI (xs (i + 1)), eI (xs (i + 2))] at hcB
  obtain ⟨⟨zcB, zsB⟩, ⟨rcB, rsB⟩, hrB⟩ := lw_room hxA hxB hGA hrA (by omega) hqB (mx_Ca_le hcB)
  refine W.eq (g2 := F0 m 488 la ((([.int (xs (i + 1)), .int (xs (i + 2))] : List Value).map (mx_v (tB l D s.heap.size ad s.heap tau).2.1.1)).reverse ++ .ref (mx_rho (tB l D s.heap.size ad s.heap tau).2.1.1 56) :: [])) rfl ?_
  refine mx_Wcallv (B := (tB l D s.heap.size ad s.heap tau)) (ci := 12) (r := cr_12) (n := 2) A dl_488 me_211 rfl (hxA.obj (lt83 (GI_n hGA) rfl) (GI_s hGA 56 rfl)) (tw lx_7_48 rfl) (tw lx_7_49 rfl) (tw lx_7_47 rfl) hcB rfl hl.1 (by exact Nat.le_of_ble_eq_true rfl) hRA hLoA (by decide) (by decide) ⟨by show nA - 1 + (hB.1 - hA.1) ≤ 600000; rw [zcB]; exact rcB, by show wA + (hB.2.1 - hA.2.1) ≤ 7302250; rw [zsB]; exact rsB⟩ (fun HB locsB hRB hLoB => ?_)
  refine W.cs zcB zsB ?_
  refine W.eq (g2 := F0 m 491 la (xI zB :: [])) rfl ?_
  refine lv_pop hx0 hb dl_491 rfl ?_
  refine lv_goto (tgt := 1513) hx0 hb dl_492 (by decide) ?_
  exact K HB locsB (nB - 1) wB ⟨nB, wB, SB, ZB, hB, hxB, hGB, hRB, hLoB, hl, ⟨by have := hrB.1; omega, hrB.2⟩, rfl, rfl⟩
set_option maxHeartbeats 4000000 in
set_option maxRecDepth 100000 in
theorem lc_9 (C0 : lw_At p s m meth c b L xs) (hL : L ≤ 3072) (A : mx_Wx (tB l D s.heap.size ad s.heap tau) p s m #[Value.ref b] c code 4 R_law) {i : Nat} (hi : i + 6 ≤ L) {ph : Int} (hph : ph ≤ 10489) (hI : lw_I (tB l D s.heap.size ad s.heap tau) s b i ph H locs la cells slots) (K : ∀ (H : Heap) (locs : List Loc) (cells slots : Nat), lw_I (tB l D s.heap.size ad s.heap tau) s b i (ph + 20) H locs la cells slots → W p l e room_1 s m #[Value.ref b] below meth c H locs cells slots Q (F0 m 1513 la [])) : W p l e room_1 s m #[Value.ref b] below meth c H locs cells slots Q (F0 m 495 la []) := by
  obtain ⟨hx0, hb, hr, hml, hown, hts, hX, hbl, hlocks, hgv⟩ := id C0
  obtain ⟨nZ, wZ, SZ, ZZ, hZ, hxZ, hGZ, hRZ, hLoZ, hl, hrZ, rfl, rfl⟩ := hI
  have qZ : 0 ≤ ZZ 1 1 ∧ ZZ 1 1 ≤ 900 := hGZ.pr 1 1
  have hS := lw_S hRZ hLoZ
  refine lv_aload_n hx0 hb dl_495 rfl (lv_at hl 1 rfl) ?_
  refine lw_arg C0 hS hl (j := 1) (x := 1) (by omega) hL (by decide) (by decide +kernel) dl_496 dl_497 dl_498 dl_499 dl_500 ?_
  refine lw_arg C0 hS hl (j := 2) (x := 2) (by omega) hL (by decide) (by decide +kernel) dl_501 dl_502 dl_503 dl_504 dl_505 ?_
  obtain ⟨zA, nA, wA, SA, ZA, hA, hcA, hxA, hGA, hqA⟩ := sf_98 (l := l) (D := D) (b0 := s.heap.size) (ad := ad) (Hb := s.heap) (tau := tau) (x0 := (xs (i + 1)).toInt) (x1 := (xs (i + 2)).toInt) hxZ hGZ (iI_x (xs (i + 1))) (iI_x (xs (i + 2))) (by omega)
  rw [eI (xs (i + 1)), eI (xs (i + 2))] at hcA
  obtain ⟨⟨zcA, zsA⟩, ⟨rcA, rsA⟩, hrA⟩ := lw_room hxZ hxA hGZ hrZ (by omega) hqA (mx_Ca_le hcA)
  refine W.eq (g2 := F0 m 506 la ((([.int (xs (i + 1)), .int (xs (i + 2))] : List Value).map (mx_v (tB l D s.heap.size ad s.heap tau).2.1.1)).reverse ++ .ref (mx_rho (tB l D s.heap.size ad s.heap tau).2.1.1 1) :: [])) rfl ?_
  refine mx_Wcallv (B := (tB l D s.heap.size ad s.heap tau)) (ci := 11) (r := cr_11) (n := 2) A dl_506 me_98 rfl (hxZ.obj (lt83 (GI_n hGZ) rfl) (GI_s hGZ 1 rfl)) (tw lx_4_41 rfl) (tw lx_4_42 rfl) (tw lx_4_40 rfl) hcA rfl hl.1 (by exact Nat.le_of_ble_eq_true rfl) hRZ hLoZ (by decide) (by decide) ⟨by show nZ - 1 + (hA.1 - hZ.1) ≤ 600000; rw [zcA]; exact rcA, by show wZ + (hA.2.1 - hZ.2.1) ≤ 7302250; rw [zsA]; exact rsA⟩ (fun HA locsA hRA hLoA => ?_)
  refine W.cs zcA zsA ?_
  have qA : 0 ≤ ZA 1 1 ∧ ZA 1 1 ≤ 900 := hGA.pr 1 1
  have hS1 := lw_S hRA hLoA
  clear hS
  have hS := hS1
  refine W.eq (g2 := F0 m 509 la (xI zA :: [])) rfl ?_
  refine lv_pop hx0 hb dl_509 rfl ?_
  refine lv_aload_n hx0 hb dl_510 rfl (lv_at hl 2 rfl) ?_
  refine lw_arg C0 hS hl (j := 1) (x := 1) (by omega) hL (by decide) (by decide +kernel) dl_511 dl_512 dl_513 dl_514 dl_515 ?_
  refine lw_arg C0 hS hl (j := 2) (x := 2) (by omega) hL (by decide) (by decide +kernel) dl_516 dl_517 dl_518 dl_519 dl_520 ?_
  obtain ⟨zB, nB, wB, SB, ZB, hB, hcB, hxB, hGB, hqB⟩ := sf_214 (l := l) (D := D) (b0 := s.heap.size) (ad := ad) (Hb := s.heap) (tau := tau) (x0 := (xs (i + 1)).toInt) (x1 := (xs (i + 2)).toInt) hxA hGA (iI_x (xs (i + 1))) (iI_x (xs (i + 2))) (by omega)
  rw [eI (xs (i + 1)), eI (xs (i + 2))] at hcB
  obtain ⟨⟨zcB, zsB⟩, ⟨rcB, rsB⟩, hrB⟩ := lw_room hxA hxB hGA hrA (by omega) hqB (mx_Ca_le hcB)
  refine W.eq (g2 := F0 m 521 la ((([.int (xs (i + 1)), .int (xs (i + 2))] : List Value).map (mx_v (tB l D s.heap.size ad s.heap tau).2.1.1)).reverse ++ .ref (mx_rho (tB l D s.heap.size ad s.heap tau).2.1.1 56) :: [])) rfl ?_
  refine mx_Wcallv (B := (tB l D s.heap.size ad s.heap tau)) (ci := 12) (r := cr_12) (n := 2) A dl_521 me_214 rfl (hxA.obj (lt83 (GI_n hGA) rfl) (GI_s hGA 56 rfl)) (tw lx_7_67 rfl) (tw lx_7_68 rfl) (tw lx_7_66 rfl) hcB rfl hl.1 (by exact Nat.le_of_ble_eq_true rfl) hRA hLoA (by decide) (by decide) ⟨by show nA - 1 + (hB.1 - hA.1) ≤ 600000; rw [zcB]; exact rcB, by show wA + (hB.2.1 - hA.2.1) ≤ 7302250; rw [zsB]; exact rsB⟩ (fun HB locsB hRB hLoB => ?_)
  refine W.cs zcB zsB ?_
  refine W.eq (g2 := F0 m 524 la (xI zB :: [])) rfl ?_
  refine lv_pop hx0 hb dl_524 rfl ?_
  refine lv_goto (tgt := 1513) hx0 hb dl_525 (by decide) ?_
  exact K HB locsB (nB - 1) wB ⟨nB, wB, SB, ZB, hB, hxB, hGB, hRB, hLoB, hl, ⟨by have := hrB.1; omega, hrB.2⟩, rfl, rfl⟩
set_option maxHeartbeats 4000000 in
set_option maxRecDepth 100000 in
theorem lc_10 (C0 : lw_At p s m meth c b L xs) (hL : L ≤ 3072) (A : mx_Wx (tB l D s.heap.size ad s.heap tau) p s m #[Value.ref b] c code 4 R_law) {i : Nat} (hi : i + 6 ≤ L) {ph : Int} (hph : ph ≤ 10489) (hI : lw_I (tB l D s.heap.size ad s.heap tau) s b i ph H locs la cells slots) (K : ∀ (H : Heap) (locs : List Loc) (cells slots : Nat), lw_I (tB l D s.heap.size ad s.heap tau) s b i (ph + 20) H locs la cells slots → W p l e room_1 s m #[Value.ref b] below meth c H locs cells slots Q (F0 m 1513 la [])) : W p l e room_1 s m #[Value.ref b] below meth c H locs cells slots Q (F0 m 528 la []) := by
  obtain ⟨hx0, hb, hr, hml, hown, hts, hX, hbl, hlocks, hgv⟩ := id C0
  obtain ⟨nZ, wZ, SZ, ZZ, hZ, hxZ, hGZ, hRZ, hLoZ, hl, hrZ, rfl, rfl⟩ := hI
  have qZ : 0 ≤ ZZ 1 1 ∧ ZZ 1 1 ≤ 900 := hGZ.pr 1 1
  have hS := lw_S hRZ hLoZ
  refine lv_aload_n hx0 hb dl_528 rfl (lv_at hl 1 rfl) ?_
  refine lw_arg C0 hS hl (j := 1) (x := 1) (by omega) hL (by decide) (by decide +kernel) dl_529 dl_530 dl_531 dl_532 dl_533 ?_
  obtain ⟨zA, nA, wA, SA, ZA, hA, hcA, hxA, hGA, hqA⟩ := sf_99 (l := l) (D := D) (b0 := s.heap.size) (ad := ad) (Hb := s.heap) (tau := tau) (x0 := (xs (i + 1)).toInt) hxZ hGZ (iI_x (xs (i + 1))) (by omega)
  rw [eI (xs (i + 1))] at hcA
  obtain ⟨⟨zcA, zsA⟩, ⟨rcA, rsA⟩, hrA⟩ := lw_room hxZ hxA hGZ hrZ (by omega) hqA (mx_Ca_le hcA)
  refine W.eq (g2 := F0 m 534 la ((([.int (xs (i + 1))] : List Value).map (mx_v (tB l D s.heap.size ad s.heap tau).2.1.1)).reverse ++ .ref (mx_rho (tB l D s.heap.size ad s.heap tau).2.1.1 1) :: [])) rfl ?_
  refine mx_Wcallv (B := (tB l D s.heap.size ad s.heap tau)) (ci := 11) (r := cr_11) (n := 1) A dl_534 me_99 rfl (hxZ.obj (lt83 (GI_n hGZ) rfl) (GI_s hGZ 1 rfl)) (tw lx_4_49 rfl) (tw lx_4_50 rfl) (tw lx_4_48 rfl) hcA rfl hl.1 (by exact Nat.le_of_ble_eq_true rfl) hRZ hLoZ (by decide) (by decide) ⟨by show nZ - 1 + (hA.1 - hZ.1) ≤ 600000; rw [zcA]; exact rcA, by show wZ + (hA.2.1 - hZ.2.1) ≤ 7302250; rw [zsA]; exact rsA⟩ (fun HA locsA hRA hLoA => ?_)
  refine W.cs zcA zsA ?_
  have qA : 0 ≤ ZA 1 1 ∧ ZA 1 1 ≤ 900 := hGA.pr 1 1
  have hS1 := lw_S hRA hLoA
  clear hS
  have hS := hS1
  refine W.eq (g2 := F0 m 537 la (xI zA :: [])) rfl ?_
  refine lv_pop hx0 hb dl_537 rfl ?_
  refine lv_aload_n hx0 hb dl_538 rfl (lv_at hl 2 rfl) ?_
  refine lw_arg C0 hS hl (j := 1) (x := 1) (by omega) hL (by decide) (by decide +kernel) dl_539 dl_540 dl_541 dl_542 dl_543 ?_
  obtain ⟨zB, nB, wB, SB, ZB, hB, hcB, hxB, hGB, hqB⟩ := sf_215 (l := l) (D := D) (b0 := s.heap.size) (ad := ad) (Hb := s.heap) (tau := tau) (x0 := (xs (i + 1)).toInt) hxA hGA (iI_x (xs (i + 1))) (by omega)
  rw [eI (xs (i + 1))] at hcB
  obtain ⟨⟨zcB, zsB⟩, ⟨rcB, rsB⟩, hrB⟩ := lw_room hxA hxB hGA hrA (by omega) hqB (mx_Ca_le hcB)
  refine W.eq (g2 := F0 m 544 la ((([.int (xs (i + 1))] : List Value).map (mx_v (tB l D s.heap.size ad s.heap tau).2.1.1)).reverse ++ .ref (mx_rho (tB l D s.heap.size ad s.heap tau).2.1.1 56) :: [])) rfl ?_
  refine mx_Wcallv (B := (tB l D s.heap.size ad s.heap tau)) (ci := 12) (r := cr_12) (n := 1) A dl_544 me_215 rfl (hxA.obj (lt83 (GI_n hGA) rfl) (GI_s hGA 56 rfl)) (tw lx_7_79 rfl) (tw lx_7_80 rfl) (tw lx_7_78 rfl) hcB rfl hl.1 (by exact Nat.le_of_ble_eq_true rfl) hRA hLoA (by decide) (by decide) ⟨by show nA - 1 + (hB.1 - hA.1) ≤ 600000; rw [zcB]; exact rcB, by show wA + (hB.2.1 - hA.2.1) ≤ 7302250; rw [zsB]; exact rsB⟩ (fun HB locsB hRB hLoB => ?_)
  refine W.cs zcB zsB ?_
  refine W.eq (g2 := F0 m 547 la (xI zB :: [])) rfl ?_
  refine lv_pop hx0 hb dl_547 rfl ?_
  refine lv_goto (tgt := 1513) hx0 hb dl_548 (by decide) ?_
  exact K HB locsB (nB - 1) wB ⟨nB, wB, SB, ZB, hB, hxB, hGB, hRB, hLoB, hl, ⟨by have := hrB.1; omega, hrB.2⟩, rfl, rfl⟩
set_option maxHeartbeats 4000000 in
set_option maxRecDepth 100000 in
theorem lc_11 (C0 : lw_At p s m meth c b L xs) (hL : L ≤ 3072) (A : mx_Wx (tB l D s.heap.size ad s.heap tau) p s m #[Value.ref b] c code 4 R_law) {i : Nat} (hi : i + 6 ≤ L) {ph : Int} (hph : ph ≤ 10489) (hI : lw_I (tB l D s.heap.size ad s.heap tau) s b i ph H locs la cells slots) (K : ∀ (H : Heap) (locs : List Loc) (cells slots : Nat), lw_I (tB l D s.heap.size ad s.heap tau) s b i (ph + 20) H locs la cells slots → W p l e room_1 s m #[Value.ref b] below meth c H locs cells slots Q (F0 m 1513 la [])) : W p l e room_1 s m #[Value.ref b] below meth c H locs cells slots Q (F0 m 551 la []) := by
  obtain ⟨hx0, hb, hr, hml, hown, hts, hX, hbl, hlocks, hgv⟩ := id C0
  obtain ⟨nZ, wZ, SZ, ZZ, hZ, hxZ, hGZ, hRZ, hLoZ, hl, hrZ, rfl, rfl⟩ := hI
  have qZ : 0 ≤ ZZ 1 1 ∧ ZZ 1 1 ≤ 900 := hGZ.pr 1 1
  have hS := lw_S hRZ hLoZ
  refine lv_aload_n hx0 hb dl_551 rfl (lv_at hl 1 rfl) ?_
  refine lw_arg C0 hS hl (j := 1) (x := 1) (by omega) hL (by decide) (by decide +kernel) dl_552 dl_553 dl_554 dl_555 dl_556 ?_
  obtain ⟨zA, nA, wA, SA, ZA, hA, hcA, hxA, hGA, hqA⟩ := sf_100 (l := l) (D := D) (b0 := s.heap.size) (ad := ad) (Hb := s.heap) (tau := tau) (x0 := (xs (i + 1)).toInt) hxZ hGZ (iI_x (xs (i + 1))) (by omega)
  rw [eI (xs (i + 1))] at hcA
  obtain ⟨⟨zcA, zsA⟩, ⟨rcA, rsA⟩, hrA⟩ := lw_room hxZ hxA hGZ hrZ (by omega) hqA (mx_Ca_le hcA)
  refine W.eq (g2 := F0 m 557 la ((([.int (xs (i + 1))] : List Value).map (mx_v (tB l D s.heap.size ad s.heap tau).2.1.1)).reverse ++ .ref (mx_rho (tB l D s.heap.size ad s.heap tau).2.1.1 1) :: [])) rfl ?_
  refine mx_Wcallv (B := (tB l D s.heap.size ad s.heap tau)) (ci := 11) (r := cr_11) (n := 1) A dl_557 me_100 rfl (hxZ.obj (lt83 (GI_n hGZ) rfl) (GI_s hGZ 1 rfl)) (tw lx_4_57 rfl) (tw lx_4_58 rfl) (tw lx_4_56 rfl) hcA rfl hl.1 (by exact Nat.le_of_ble_eq_true rfl) hRZ hLoZ (by decide) (by decide) ⟨by show nZ - 1 + (hA.1 - hZ.1) ≤ 600000; rw [zcA]; exact rcA, by show wZ + (hA.2.1 - hZ.2.1) ≤ 7302250; rw [zsA]; exact rsA⟩ (fun HA locsA hRA hLoA => ?_)
  refine W.cs zcA zsA ?_
  have qA : 0 ≤ ZA 1 1 ∧ ZA 1 1 ≤ 900 := hGA.pr 1 1
  have hS1 := lw_S hRA hLoA
  clear hS
  have hS := hS1
  refine W.eq (g2 := F0 m 560 la (xI zA :: [])) rfl ?_
  refine lv_pop hx0 hb dl_560 rfl ?_
  refine lv_aload_n hx0 hb dl_561 rfl (lv_at hl 2 rfl) ?_
  refine lw_arg C0 hS hl (j := 1) (x := 1) (by omega) hL (by decide) (by decide +kernel) dl_562 dl_563 dl_564 dl_565 dl_566 ?_
  obtain ⟨zB, nB, wB, SB, ZB, hB, hcB, hxB, hGB, hqB⟩ := sf_216 (l := l) (D := D) (b0 := s.heap.size) (ad := ad) (Hb := s.heap) (tau := tau) (x0 := (xs (i + 1)).toInt) hxA hGA (iI_x (xs (i + 1))) (by omega)
  rw [eI (xs (i + 1))] at hcB
  obtain ⟨⟨zcB, zsB⟩, ⟨rcB, rsB⟩, hrB⟩ := lw_room hxA hxB hGA hrA (by omega) hqB (mx_Ca_le hcB)
  refine W.eq (g2 := F0 m 567 la ((([.int (xs (i + 1))] : List Value).map (mx_v (tB l D s.heap.size ad s.heap tau).2.1.1)).reverse ++ .ref (mx_rho (tB l D s.heap.size ad s.heap tau).2.1.1 56) :: [])) rfl ?_
  refine mx_Wcallv (B := (tB l D s.heap.size ad s.heap tau)) (ci := 12) (r := cr_12) (n := 1) A dl_567 me_216 rfl (hxA.obj (lt83 (GI_n hGA) rfl) (GI_s hGA 56 rfl)) (tw lx_7_84 rfl) (tw lx_7_85 rfl) (tw lx_7_83 rfl) hcB rfl hl.1 (by exact Nat.le_of_ble_eq_true rfl) hRA hLoA (by decide) (by decide) ⟨by show nA - 1 + (hB.1 - hA.1) ≤ 600000; rw [zcB]; exact rcB, by show wA + (hB.2.1 - hA.2.1) ≤ 7302250; rw [zsB]; exact rsB⟩ (fun HB locsB hRB hLoB => ?_)
  refine W.cs zcB zsB ?_
  refine W.eq (g2 := F0 m 570 la (xI zB :: [])) rfl ?_
  refine lv_pop hx0 hb dl_570 rfl ?_
  refine lv_goto (tgt := 1513) hx0 hb dl_571 (by decide) ?_
  exact K HB locsB (nB - 1) wB ⟨nB, wB, SB, ZB, hB, hxB, hGB, hRB, hLoB, hl, ⟨by have := hrB.1; omega, hrB.2⟩, rfl, rfl⟩
set_option maxHeartbeats 4000000 in
set_option maxRecDepth 100000 in
theorem lc_12 (C0 : lw_At p s m meth c b L xs) (hL : L ≤ 3072) (A : mx_Wx (tB l D s.heap.size ad s.heap tau) p s m #[Value.ref b] c code 4 R_law) {i : Nat} (hi : i + 6 ≤ L) {ph : Int} (hph : ph ≤ 10489) (hI : lw_I (tB l D s.heap.size ad s.heap tau) s b i ph H locs la cells slots) (K : ∀ (H : Heap) (locs : List Loc) (cells slots : Nat), lw_I (tB l D s.heap.size ad s.heap tau) s b i (ph + 20) H locs la cells slots → W p l e room_1 s m #[Value.ref b] below meth c H locs cells slots Q (F0 m 1513 la [])) : W p l e room_1 s m #[Value.ref b] below meth c H locs cells slots Q (F0 m 574 la []) := by
  obtain ⟨hx0, hb, hr, hml, hown, hts, hX, hbl, hlocks, hgv⟩ := id C0
  obtain ⟨nZ, wZ, SZ, ZZ, hZ, hxZ, hGZ, hRZ, hLoZ, hl, hrZ, rfl, rfl⟩ := hI
  have qZ : 0 ≤ ZZ 1 1 ∧ ZZ 1 1 ≤ 900 := hGZ.pr 1 1
  have hS := lw_S hRZ hLoZ
  refine lv_aload_n hx0 hb dl_574 rfl (lv_at hl 1 rfl) ?_
  refine lw_arg C0 hS hl (j := 1) (x := 1) (by omega) hL (by decide) (by decide +kernel) dl_575 dl_576 dl_577 dl_578 dl_579 ?_
  refine lw_arg C0 hS hl (j := 2) (x := 2) (by omega) hL (by decide) (by decide +kernel) dl_580 dl_581 dl_582 dl_583 dl_584 ?_
  obtain ⟨zA, nA, wA, SA, ZA, hA, hcA, hxA, hGA, hqA⟩ := sf_101 (l := l) (D := D) (b0 := s.heap.size) (ad := ad) (Hb := s.heap) (tau := tau) (x0 := (xs (i + 1)).toInt) (x1 := (xs (i + 2)).toInt) hxZ hGZ (iI_x (xs (i + 1))) (iI_x (xs (i + 2))) (by omega)
  rw [eI (xs (i + 1)), eI (xs (i + 2))] at hcA
  obtain ⟨⟨zcA, zsA⟩, ⟨rcA, rsA⟩, hrA⟩ := lw_room hxZ hxA hGZ hrZ (by omega) hqA (mx_Ca_le hcA)
  refine W.eq (g2 := F0 m 585 la ((([.int (xs (i + 1)), .int (xs (i + 2))] : List Value).map (mx_v (tB l D s.heap.size ad s.heap tau).2.1.1)).reverse ++ .ref (mx_rho (tB l D s.heap.size ad s.heap tau).2.1.1 1) :: [])) rfl ?_
  refine mx_Wcallv (B := (tB l D s.heap.size ad s.heap tau)) (ci := 11) (r := cr_11) (n := 2) A dl_585 me_101 rfl (hxZ.obj (lt83 (GI_n hGZ) rfl) (GI_s hGZ 1 rfl)) (tw lx_4_65 rfl) (tw lx_4_66 rfl) (tw lx_4_64 rfl) hcA rfl hl.1 (by exact Nat.le_of_ble_eq_true rfl) hRZ hLoZ (by decide) (by decide) ⟨by show nZ - 1 + (hA.1 - hZ.1) ≤ 600000; rw [zcA]; exact rcA, by show wZ + (hA.2.1 - hZ.2.1) ≤ 7302250; rw [zsA]; exact rsA⟩ (fun HA locsA hRA hLoA => ?_)
  refine W.cs zcA zsA ?_
  have qA : 0 ≤ ZA 1 1 ∧ ZA 1 1 ≤ 900 := hGA.pr 1 1
  have hS1 := lw_S hRA hLoA
  clear hS
  have hS := hS1
  refine W.eq (g2 := F0 m 588 la (xI zA :: [])) rfl ?_
  refine lv_pop hx0 hb dl_588 rfl ?_
  refine lv_aload_n hx0 hb dl_589 rfl (lv_at hl 2 rfl) ?_
  refine lw_arg C0 hS hl (j := 1) (x := 1) (by omega) hL (by decide) (by decide +kernel) dl_590 dl_591 dl_592 dl_593 dl_594 ?_
  refine lw_arg C0 hS hl (j := 2) (x := 2) (by omega) hL (by decide) (by decide +kernel) dl_595 dl_596 dl_597 dl_598 dl_599 ?_
  obtain ⟨zB, nB, wB, SB, ZB, hB, hcB, hxB, hGB, hqB⟩ := sf_221 (l := l) (D := D) (b0 := s.heap.size) (ad := ad) (Hb := s.heap) (tau := tau) (x0 := (xs (i + 1)).toInt) (x1 := (xs (i + 2)).toInt) hxA hGA (iI_x (xs (i + 1))) (iI_x (xs (i + 2))) (by omega)
  rw [eI (xs (i + 1)), eI (xs (i + 2))] at hcB
  obtain ⟨⟨zcB, zsB⟩, ⟨rcB, rsB⟩, hrB⟩ := lw_room hxA hxB hGA hrA (by omega) hqB (mx_Ca_le hcB)
  refine W.eq (g2 := F0 m 600 la ((([.int (xs (i + 1)), .int (xs (i + 2))] : List Value).map (mx_v (tB l D s.heap.size ad s.heap tau).2.1.1)).reverse ++ .ref (mx_rho (tB l D s.heap.size ad s.heap tau).2.1.1 56) :: [])) rfl ?_
  refine mx_Wcallv (B := (tB l D s.heap.size ad s.heap tau)) (ci := 12) (r := cr_12) (n := 2) A dl_600 me_221 rfl (hxA.obj (lt83 (GI_n hGA) rfl) (GI_s hGA 56 rfl)) (tw lx_7_89 rfl) (tw lx_7_90 rfl) (tw lx_7_88 rfl) hcB rfl hl.1 (by exact Nat.le_of_ble_eq_true rfl) hRA hLoA (by decide) (by decide) ⟨by show nA - 1 + (hB.1 - hA.1) ≤ 600000; rw [zcB]; exact rcB, by show wA + (hB.2.1 - hA.2.1) ≤ 7302250; rw [zsB]; exact rsB⟩ (fun HB locsB hRB hLoB => ?_)
  refine W.cs zcB zsB ?_
  refine W.eq (g2 := F0 m 603 la (xI zB :: [])) rfl ?_
  refine lv_pop hx0 hb dl_603 rfl ?_
  refine lv_goto (tgt := 1513) hx0 hb dl_604 (by decide) ?_
  exact K HB locsB (nB - 1) wB ⟨nB, wB, SB, ZB, hB, hxB, hGB, hRB, hLoB, hl, ⟨by have := hrB.1; omega, hrB.2⟩, rfl, rfl⟩
set_option maxHeartbeats 4000000 in
set_option maxRecDepth 100000 in
theorem lc_13 (C0 : lw_At p s m meth c b L xs) (hL : L ≤ 3072) (A : mx_Wx (tB l D s.heap.size ad s.heap tau) p s m #[Value.ref b] c code 4 R_law) {i : Nat} (hi : i + 6 ≤ L) {ph : Int} (hph : ph ≤ 10489) (hI : lw_I (tB l D s.heap.size ad s.heap tau) s b i ph H locs la cells slots) (K : ∀ (H : Heap) (locs : List Loc) (cells slots : Nat), lw_I (tB l D s.heap.size ad s.heap tau) s b i (ph + 20) H locs la cells slots → W p l e room_1 s m #[Value.ref b] below meth c H locs cells slots Q (F0 m 1513 la [])) : W p l e room_1 s m #[Value.ref b] below meth c H locs cells slots Q (F0 m 607 la []) := by
  obtain ⟨hx0, hb, hr, hml, hown, hts, hX, hbl, hlocks, hgv⟩ := id C0
  obtain ⟨nZ, wZ, SZ, ZZ, hZ, hxZ, hGZ, hRZ, hLoZ, hl, hrZ, rfl, rfl⟩ := hI
  have qZ : 0 ≤ ZZ 1 1 ∧ ZZ 1 1 ≤ 900 := hGZ.pr 1 1
  have hS := lw_S hRZ hLoZ
  refine lv_aload_n hx0 hb dl_607 rfl (lv_at hl 1 rfl) ?_
  refine lw_arg C0 hS hl (j := 1) (x := 1) (by omega) hL (by decide) (by decide +kernel) dl_608 dl_609 dl_610 dl_611 dl_612 ?_
  obtain ⟨zA, nA, wA, SA, ZA, hA, hcA, hxA, hGA, hqA⟩ := sf_102 (l := l) (D := D) (b0 := s.heap.size) (ad := ad) (Hb := s.heap) (tau := tau) (x0 := (xs (i + 1)).toInt) hxZ hGZ (iI_x (xs (i + 1))) (by omega)
  rw [eI (xs (i + 1))] at hcA
  obtain ⟨⟨zcA, zsA⟩, ⟨rcA, rsA⟩, hrA⟩ := lw_room hxZ hxA hGZ hrZ (by omega) hqA (mx_Ca_le hcA)
  refine W.eq (g2 := F0 m 613 la ((([.int (xs (i + 1))] : List Value).map (mx_v (tB l D s.heap.size ad s.heap tau).2.1.1)).reverse ++ .ref (mx_rho (tB l D s.heap.size ad s.heap tau).2.1.1 1) :: [])) rfl ?_
  refine mx_Wcallv (B := (tB l D s.heap.size ad s.heap tau)) (ci := 11) (r := cr_11) (n := 1) A dl_613 me_102 rfl (hxZ.obj (lt83 (GI_n hGZ) rfl) (GI_s hGZ 1 rfl)) (tw lx_4_86 rfl) (tw lx_4_87 rfl) (tw lx_4_85 rfl) hcA rfl hl.1 (by exact Nat.le_of_ble_eq_true rfl) hRZ hLoZ (by decide) (by decide) ⟨by show nZ - 1 + (hA.1 - hZ.1) ≤ 600000; rw [zcA]; exact rcA, by show wZ + (hA.2.1 - hZ.2.1) ≤ 7302250; rw [zsA]; exact rsA⟩ (fun HA locsA hRA hLoA => ?_)
  refine W.cs zcA zsA ?_
  have qA : 0 ≤ ZA 1 1 ∧ ZA 1 1 ≤ 900 := hGA.pr 1 1
  have hS1 := lw_S hRA hLoA
  clear hS
  have hS := hS1
  refine W.eq (g2 := F0 m 616 la (xI zA :: [])) rfl ?_
  refine lv_pop hx0 hb dl_616 rfl ?_
  refine lv_aload_n hx0 hb dl_617 rfl (lv_at hl 2 rfl) ?_
  refine lw_arg C0 hS hl (j := 1) (x := 1) (by omega) hL (by decide) (by decide +kernel) dl_618 dl_619 dl_620 dl_621 dl_622 ?_
  obtain ⟨zB, nB, wB, SB, ZB, hB, hcB, hxB, hGB, hqB⟩ := sf_222 (l := l) (D := D) (b0 := s.heap.size) (ad := ad) (Hb := s.heap) (tau := tau) (x0 := (xs (i + 1)).toInt) hxA hGA (iI_x (xs (i + 1))) (by omega)
  rw [eI (xs (i + 1))] at hcB
  obtain ⟨⟨zcB, zsB⟩, ⟨rcB, rsB⟩, hrB⟩ := lw_room hxA hxB hGA hrA (by omega) hqB (mx_Ca_le hcB)
  refine W.eq (g2 := F0 m 623 la ((([.int (xs (i + 1))] : List Value).map (mx_v (tB l D s.heap.size ad s.heap tau).2.1.1)).reverse ++ .ref (mx_rho (tB l D s.heap.size ad s.heap tau).2.1.1 56) :: [])) rfl ?_
  refine mx_Wcallv (B := (tB l D s.heap.size ad s.heap tau)) (ci := 12) (r := cr_12) (n := 1) A dl_623 me_222 rfl (hxA.obj (lt83 (GI_n hGA) rfl) (GI_s hGA 56 rfl)) (tw lx_7_120 rfl) (tw lx_7_121 rfl) (tw lx_7_119 rfl) hcB rfl hl.1 (by exact Nat.le_of_ble_eq_true rfl) hRA hLoA (by decide) (by decide) ⟨by show nA - 1 + (hB.1 - hA.1) ≤ 600000; rw [zcB]; exact rcB, by show wA + (hB.2.1 - hA.2.1) ≤ 7302250; rw [zsB]; exact rsB⟩ (fun HB locsB hRB hLoB => ?_)
  refine W.cs zcB zsB ?_
  refine W.eq (g2 := F0 m 626 la (xI zB :: [])) rfl ?_
  refine lv_pop hx0 hb dl_626 rfl ?_
  refine lv_goto (tgt := 1513) hx0 hb dl_627 (by decide) ?_
  exact K HB locsB (nB - 1) wB ⟨nB, wB, SB, ZB, hB, hxB, hGB, hRB, hLoB, hl, ⟨by have := hrB.1; omega, hrB.2⟩, rfl, rfl⟩
set_option maxHeartbeats 4000000 in
set_option maxRecDepth 100000 in
theorem lc_14 (C0 : lw_At p s m meth c b L xs) (hL : L ≤ 3072) (A : mx_Wx (tB l D s.heap.size ad s.heap tau) p s m #[Value.ref b] c code 4 R_law) {i : Nat} (hi : i + 6 ≤ L) {ph : Int} (hph : ph ≤ 10489) (hI : lw_I (tB l D s.heap.size ad s.heap tau) s b i ph H locs la cells slots) (K : ∀ (H : Heap) (locs : List Loc) (cells slots : Nat), lw_I (tB l D s.heap.size ad s.heap tau) s b i (ph + 20) H locs la cells slots → W p l e room_1 s m #[Value.ref b] below meth c H locs cells slots Q (F0 m 1513 la [])) : W p l e room_1 s m #[Value.ref b] below meth c H locs cells slots Q (F0 m 630 la []) := by
  obtain ⟨hx0, hb, hr, hml, hown, hts, hX, hbl, hlocks, hgv⟩ := id C0
  obtain ⟨nZ, wZ, SZ, ZZ, hZ, hxZ, hGZ, hRZ, hLoZ, hl, hrZ, rfl, rfl⟩ := hI
  have qZ : 0 ≤ ZZ 1 1 ∧ ZZ 1 1 ≤ 900 := hGZ.pr 1 1
  have hS := lw_S hRZ hLoZ
  refine lv_aload_n hx0 hb dl_630 rfl (lv_at hl 1 rfl) ?_
  refine lw_arg C0 hS hl (j := 1) (x := 1) (by omega) hL (by decide) (by decide +kernel) dl_631 dl_632 dl_633 dl_634 dl_635 ?_
  refine lw_arg C0 hS hl (j := 2) (x := 2) (by omega) hL (by decide) (by decide +kernel) dl_636 dl_637 dl_638 dl_639 dl_640 ?_
  obtain ⟨zA, nA, wA, SA, ZA, hA, hcA, hxA, hGA, hqA⟩ := sf_103 (l := l) (D := D) (b0 := s.heap.size) (ad := ad) (Hb := s.heap) (tau := tau) (x0 := (xs (i + 1)).toInt) (x1 := (xs (i + 2)).toInt) hxZ hGZ (iI_x (xs (i + 1))) (iI_x (xs (i + 2))) (by omega)
  rw [eI (xs (i + 1)), eI (xs (i + 2))] at hcA
  obtain ⟨⟨zcA, zsA⟩, ⟨rcA, rsA⟩, hrA⟩ := lw_room hxZ hxA hGZ hrZ (by omega) hqA (mx_Ca_le hcA)
  refine W.eq (g2 := F0 m 641 la ((([.int (xs (i + 1)), .int (xs (i + 2))] : List Value).map (mx_v (tB l D s.heap.size ad s.heap tau).2.1.1)).reverse ++ .ref (mx_rho (tB l D s.heap.size ad s.heap tau).2.1.1 1) :: [])) rfl ?_
  refine mx_Wcallv (B := (tB l D s.heap.size ad s.heap tau)) (ci := 11) (r := cr_11) (n := 2) A dl_641 me_103 rfl (hxZ.obj (lt83 (GI_n hGZ) rfl) (GI_s hGZ 1 rfl)) (tw lx_4_90 rfl) (tw lx_4_91 rfl) (tw lx_4_89 rfl) hcA rfl hl.1 (by exact Nat.le_of_ble_eq_true rfl) hRZ hLoZ (by decide) (by decide) ⟨by show nZ - 1 + (hA.1 - hZ.1) ≤ 600000; rw [zcA]; exact rcA, by show wZ + (hA.2.1 - hZ.2.1) ≤ 7302250; rw [zsA]; exact rsA⟩ (fun HA locsA hRA hLoA => ?_)
  refine W.cs zcA zsA ?_
  have qA : 0 ≤ ZA 1 1 ∧ ZA 1 1 ≤ 900 := hGA.pr 1 1
  have hS1 := lw_S hRA hLoA
  clear hS
  have hS := hS1
  refine W.eq (g2 := F0 m 644 la (xI zA :: [])) rfl ?_
  refine lv_pop hx0 hb dl_644 rfl ?_
  refine lv_aload_n hx0 hb dl_645 rfl (lv_at hl 2 rfl) ?_
  refine lw_arg C0 hS hl (j := 1) (x := 1) (by omega) hL (by decide) (by decide +kernel) dl_646 dl_647 dl_648 dl_649 dl_650 ?_
  refine lw_arg C0 hS hl (j := 2) (x := 2) (by omega) hL (by decide) (by decide +kernel) dl_651 dl_652 dl_653 dl_654 dl_655 ?_
  obtain ⟨zB, nB, wB, SB, ZB, hB, hcB, hxB, hGB, hqB⟩ := sf_225 (l := l) (D := D) (b0 := s.heap.size) (ad := ad) (Hb := s.heap) (tau := tau) (x0 := (xs (i + 1)).toInt) (x1 := (xs (i + 2)).toInt) hxA hGA (iI_x (xs (i + 1))) (iI_x (xs (i + 2))) (by omega)
  rw [eI (xs (i + 1)), eI (xs (i + 2))] at hcB
  obtain ⟨⟨zcB, zsB⟩, ⟨rcB, rsB⟩, hrB⟩ := lw_room hxA hxB hGA hrA (by omega) hqB (mx_Ca_le hcB)
  refine W.eq (g2 := F0 m 656 la ((([.int (xs (i + 1)), .int (xs (i + 2))] : List Value).map (mx_v (tB l D s.heap.size ad s.heap tau).2.1.1)).reverse ++ .ref (mx_rho (tB l D s.heap.size ad s.heap tau).2.1.1 56) :: [])) rfl ?_
  refine mx_Wcallv (B := (tB l D s.heap.size ad s.heap tau)) (ci := 12) (r := cr_12) (n := 2) A dl_656 me_225 rfl (hxA.obj (lt83 (GI_n hGA) rfl) (GI_s hGA 56 rfl)) (tw lx_7_124 rfl) (tw lx_7_125 rfl) (tw lx_7_123 rfl) hcB rfl hl.1 (by exact Nat.le_of_ble_eq_true rfl) hRA hLoA (by decide) (by decide) ⟨by show nA - 1 + (hB.1 - hA.1) ≤ 600000; rw [zcB]; exact rcB, by show wA + (hB.2.1 - hA.2.1) ≤ 7302250; rw [zsB]; exact rsB⟩ (fun HB locsB hRB hLoB => ?_)
  refine W.cs zcB zsB ?_
  refine W.eq (g2 := F0 m 659 la (xI zB :: [])) rfl ?_
  refine lv_pop hx0 hb dl_659 rfl ?_
  refine lv_goto (tgt := 1513) hx0 hb dl_660 (by decide) ?_
  exact K HB locsB (nB - 1) wB ⟨nB, wB, SB, ZB, hB, hxB, hGB, hRB, hLoB, hl, ⟨by have := hrB.1; omega, hrB.2⟩, rfl, rfl⟩
set_option maxHeartbeats 4000000 in
set_option maxRecDepth 100000 in
theorem lc_15 (C0 : lw_At p s m meth c b L xs) (hL : L ≤ 3072) (A : mx_Wx (tB l D s.heap.size ad s.heap tau) p s m #[Value.ref b] c code 4 R_law) {i : Nat} (hi : i + 6 ≤ L) {ph : Int} (hph : ph ≤ 10489) (hI : lw_I (tB l D s.heap.size ad s.heap tau) s b i ph H locs la cells slots) (K : ∀ (H : Heap) (locs : List Loc) (cells slots : Nat), lw_I (tB l D s.heap.size ad s.heap tau) s b i (ph + 20) H locs la cells slots → W p l e room_1 s m #[Value.ref b] below meth c H locs cells slots Q (F0 m 1513 la [])) : W p l e room_1 s m #[Value.ref b] below meth c H locs cells slots Q (F0 m 663 la []) := by
  obtain ⟨hx0, hb, hr, hml, hown, hts, hX, hbl, hlocks, hgv⟩ := id C0
  obtain ⟨nZ, wZ, SZ, ZZ, hZ, hxZ, hGZ, hRZ, hLoZ, hl, hrZ, rfl, rfl⟩ := hI
  have qZ : 0 ≤ ZZ 1 1 ∧ ZZ 1 1 ≤ 900 := hGZ.pr 1 1
  have hS := lw_S hRZ hLoZ
  refine lv_aload_n hx0 hb dl_663 rfl (lv_at hl 1 rfl) ?_
  refine lw_arg C0 hS hl (j := 1) (x := 1) (by omega) hL (by decide) (by decide +kernel) dl_664 dl_665 dl_666 dl_667 dl_668 ?_
  refine lv_i2l hx0 hb dl_669 rfl ?_
  refine lv_bipush (v := 32) hx0 hb dl_670 (by decide) ?_
  refine lv_lshl hx0 hb dl_672 rfl ?_
  refine lw_arg C0 hS hl (j := 2) (x := 2) (by omega) hL (by decide) (by decide +kernel) dl_673 dl_674 dl_675 dl_676 dl_677 ?_
  refine lv_i2l hx0 hb dl_678 rfl ?_
  refine W.ldc2 hx0 hb hown (hts _ lx_8_135) rfl dl_679 ?_
  refine lv_land hx0 hb dl_682 ?_
  refine lv_lor hx0 hb dl_683 ?_
  obtain ⟨zA, nA, wA, SA, ZA, hA, hcA, hxA, hGA, hqA⟩ := sf_104 (l := l) (D := D) (b0 := s.heap.size) (ad := ad) (Hb := s.heap) (tau := tau) (x0 := ((xs (i + 1)).toInt64 <<< ((32 : Int32).toInt64 &&& 63) ||| ((xs (i + 2)).toInt64 &&& 4294967295)).toInt) hxZ hGZ (iL_x ((xs (i + 1)).toInt64 <<< ((32 : Int32).toInt64 &&& 63) ||| ((xs (i + 2)).toInt64 &&& 4294967295))) (by omega)
  rw [eL ((xs (i + 1)).toInt64 <<< ((32 : Int32).toInt64 &&& 63) ||| ((xs (i + 2)).toInt64 &&& 4294967295))] at hcA
  obtain ⟨⟨zcA, zsA⟩, ⟨rcA, rsA⟩, hrA⟩ := lw_room hxZ hxA hGZ hrZ (by omega) hqA (mx_Ca_le hcA)
  refine W.eq (g2 := F0 m 684 la ((([.long ((xs (i + 1)).toInt64 <<< ((32 : Int32).toInt64 &&& 63) ||| ((xs (i + 2)).toInt64 &&& 4294967295))] : List Value).map (mx_v (tB l D s.heap.size ad s.heap tau).2.1.1)).reverse ++ .ref (mx_rho (tB l D s.heap.size ad s.heap tau).2.1.1 1) :: [])) rfl ?_
  refine mx_Wcallv (B := (tB l D s.heap.size ad s.heap tau)) (ci := 11) (r := cr_11) (n := 1) A dl_684 me_104 rfl (hxZ.obj (lt83 (GI_n hGZ) rfl) (GI_s hGZ 1 rfl)) (tw lx_4_113 rfl) (tw lx_4_114 rfl) (tw lx_4_112 rfl) hcA rfl hl.1 (by exact Nat.le_of_ble_eq_true rfl) hRZ hLoZ (by decide) (by decide) ⟨by show nZ - 1 + (hA.1 - hZ.1) ≤ 600000; rw [zcA]; exact rcA, by show wZ + (hA.2.1 - hZ.2.1) ≤ 7302250; rw [zsA]; exact rsA⟩ (fun HA locsA hRA hLoA => ?_)
  refine W.cs zcA zsA ?_
  have qA : 0 ≤ ZA 1 1 ∧ ZA 1 1 ≤ 900 := hGA.pr 1 1
  have hS1 := lw_S hRA hLoA
  clear hS
  have hS := hS1
  refine W.eq (g2 := F0 m 687 la (xI zA :: [])) rfl ?_
  refine lv_pop hx0 hb dl_687 rfl ?_
  refine lv_aload_n hx0 hb dl_688 rfl (lv_at hl 2 rfl) ?_
  refine lw_arg C0 hS hl (j := 1) (x := 1) (by omega) hL (by decide) (by decide +kernel) dl_689 dl_690 dl_691 dl_692 dl_693 ?_
  refine lv_i2l hx0 hb dl_694 rfl ?_
  refine lv_bipush (v := 32) hx0 hb dl_695 (by decide) ?_
  refine lv_lshl hx0 hb dl_697 rfl ?_
  refine lw_arg C0 hS hl (j := 2) (x := 2) (by omega) hL (by decide) (by decide +kernel) dl_698 dl_699 dl_700 dl_701 dl_702 ?_
  refine lv_i2l hx0 hb dl_703 rfl ?_
  refine W.ldc2 hx0 hb hown (hts _ lx_8_135) rfl dl_704 ?_
  refine lv_land hx0 hb dl_707 ?_
  refine lv_lor hx0 hb dl_708 ?_
  obtain ⟨zB, nB, wB, SB, ZB, hB, hcB, hxB, hGB, hqB⟩ := sf_228 (l := l) (D := D) (b0 := s.heap.size) (ad := ad) (Hb := s.heap) (tau := tau) (x0 := ((xs (i + 1)).toInt64 <<< ((32 : Int32).toInt64 &&& 63) ||| ((xs (i + 2)).toInt64 &&& 4294967295)).toInt) hxA hGA (iL_x ((xs (i + 1)).toInt64 <<< ((32 : Int32).toInt64 &&& 63) ||| ((xs (i + 2)).toInt64 &&& 4294967295))) (by omega)
  rw [eL ((xs (i + 1)).toInt64 <<< ((32 : Int32).toInt64 &&& 63) ||| ((xs (i + 2)).toInt64 &&& 4294967295))] at hcB
  obtain ⟨⟨zcB, zsB⟩, ⟨rcB, rsB⟩, hrB⟩ := lw_room hxA hxB hGA hrA (by omega) hqB (mx_Ca_le hcB)
  refine W.eq (g2 := F0 m 709 la ((([.long ((xs (i + 1)).toInt64 <<< ((32 : Int32).toInt64 &&& 63) ||| ((xs (i + 2)).toInt64 &&& 4294967295))] : List Value).map (mx_v (tB l D s.heap.size ad s.heap tau).2.1.1)).reverse ++ .ref (mx_rho (tB l D s.heap.size ad s.heap tau).2.1.1 56) :: [])) rfl ?_
  refine mx_Wcallv (B := (tB l D s.heap.size ad s.heap tau)) (ci := 12) (r := cr_12) (n := 1) A dl_709 me_228 rfl (hxA.obj (lt83 (GI_n hGA) rfl) (GI_s hGA 56 rfl)) (tw lx_7_138 rfl) (tw lx_7_139 rfl) (tw lx_7_137 rfl) hcB rfl hl.1 (by exact Nat.le_of_ble_eq_true rfl) hRA hLoA (by decide) (by decide) ⟨by show nA - 1 + (hB.1 - hA.1) ≤ 600000; rw [zcB]; exact rcB, by show wA + (hB.2.1 - hA.2.1) ≤ 7302250; rw [zsB]; exact rsB⟩ (fun HB locsB hRB hLoB => ?_)
  refine W.cs zcB zsB ?_
  refine W.eq (g2 := F0 m 712 la (xI zB :: [])) rfl ?_
  refine lv_pop hx0 hb dl_712 rfl ?_
  refine lv_goto (tgt := 1513) hx0 hb dl_713 (by decide) ?_
  exact K HB locsB (nB - 1) wB ⟨nB, wB, SB, ZB, hB, hxB, hGB, hRB, hLoB, hl, ⟨by have := hrB.1; omega, hrB.2⟩, rfl, rfl⟩
set_option maxHeartbeats 4000000 in
set_option maxRecDepth 100000 in
theorem lc_16 (C0 : lw_At p s m meth c b L xs) (hL : L ≤ 3072) (A : mx_Wx (tB l D s.heap.size ad s.heap tau) p s m #[Value.ref b] c code 4 R_law) {i : Nat} (hi : i + 6 ≤ L) {ph : Int} (hph : ph ≤ 10489) (hI : lw_I (tB l D s.heap.size ad s.heap tau) s b i ph H locs la cells slots) (K : ∀ (H : Heap) (locs : List Loc) (cells slots : Nat), lw_I (tB l D s.heap.size ad s.heap tau) s b i (ph + 20) H locs la cells slots → W p l e room_1 s m #[Value.ref b] below meth c H locs cells slots Q (F0 m 1513 la [])) : W p l e room_1 s m #[Value.ref b] below meth c H locs cells slots Q (F0 m 716 la []) := by
  obtain ⟨hx0, hb, hr, hml, hown, hts, hX, hbl, hlocks, hgv⟩ := id C0
  obtain ⟨nZ, wZ, SZ, ZZ, hZ, hxZ, hGZ, hRZ, hLoZ, hl, hrZ, rfl, rfl⟩ := hI
  have qZ : 0 ≤ ZZ 1 1 ∧ ZZ 1 1 ≤ 900 := hGZ.pr 1 1
  have hS := lw_S hRZ hLoZ
  refine lv_aload_n hx0 hb dl_716 rfl (lv_at hl 1 rfl) ?_
  refine lw_arg C0 hS hl (j := 1) (x := 1) (by omega) hL (by decide) (by decide +kernel) dl_717 dl_718 dl_719 dl_720 dl_721 ?_
  obtain ⟨zA, nA, wA, SA, ZA, hA, hcA, hxA, hGA, hqA⟩ := sf_105 (l := l) (D := D) (b0 := s.heap.size) (ad := ad) (Hb := s.heap) (tau := tau) (x0 := (xs (i + 1)).toInt) hxZ hGZ (iI_x (xs (i + 1))) (by omega)
  rw [eI (xs (i + 1))] at hcA
  obtain ⟨⟨zcA, zsA⟩, ⟨rcA, rsA⟩, hrA⟩ := lw_room hxZ hxA hGZ hrZ (by omega) hqA (mx_Ca_le hcA)
  refine W.eq (g2 := F0 m 722 la ((([.int (xs (i + 1))] : List Value).map (mx_v (tB l D s.heap.size ad s.heap tau).2.1.1)).reverse ++ .ref (mx_rho (tB l D s.heap.size ad s.heap tau).2.1.1 1) :: [])) rfl ?_
  refine mx_Wcallv (B := (tB l D s.heap.size ad s.heap tau)) (ci := 11) (r := cr_11) (n := 1) A dl_722 me_105 rfl (hxZ.obj (lt83 (GI_n hGZ) rfl) (GI_s hGZ 1 rfl)) (tw lx_4_134 rfl) (tw lx_4_135 rfl) (tw lx_4_133 rfl) hcA rfl hl.1 (by exact Nat.le_of_ble_eq_true rfl) hRZ hLoZ (by decide) (by decide) ⟨by show nZ - 1 + (hA.1 - hZ.1) ≤ 600000; rw [zcA]; exact rcA, by show wZ + (hA.2.1 - hZ.2.1) ≤ 7302250; rw [zsA]; exact rsA⟩ (fun HA locsA hRA hLoA => ?_)
  refine W.cs zcA zsA ?_
  have qA : 0 ≤ ZA 1 1 ∧ ZA 1 1 ≤ 900 := hGA.pr 1 1
  have hS1 := lw_S hRA hLoA
  clear hS
  have hS := hS1
  refine W.eq (g2 := F0 m 725 la (xI zA :: [])) rfl ?_
  refine lv_pop hx0 hb dl_725 rfl ?_
  refine lv_aload_n hx0 hb dl_726 rfl (lv_at hl 2 rfl) ?_
  refine lw_arg C0 hS hl (j := 1) (x := 1) (by omega) hL (by decide) (by decide +kernel) dl_727 dl_728 dl_729 dl_730 dl_731 ?_
  obtain ⟨zB, nB, wB, SB, ZB, hB, hcB, hxB, hGB, hqB⟩ := sf_229 (l := l) (D := D) (b0 := s.heap.size) (ad := ad) (Hb := s.heap) (tau := tau) (x0 := (xs (i + 1)).toInt) hxA hGA (iI_x (xs (i + 1))) (by omega)
  rw [eI (xs (i + 1))] at hcB
  obtain ⟨⟨zcB, zsB⟩, ⟨rcB, rsB⟩, hrB⟩ := lw_room hxA hxB hGA hrA (by omega) hqB (mx_Ca_le hcB)
  refine W.eq (g2 := F0 m 732 la ((([.int (xs (i + 1))] : List Value).map (mx_v (tB l D s.heap.size ad s.heap tau).2.1.1)).reverse ++ .ref (mx_rho (tB l D s.heap.size ad s.heap tau).2.1.1 56) :: [])) rfl ?_
  refine mx_Wcallv (B := (tB l D s.heap.size ad s.heap tau)) (ci := 12) (r := cr_12) (n := 1) A dl_732 me_229 rfl (hxA.obj (lt83 (GI_n hGA) rfl) (GI_s hGA 56 rfl)) (tw lx_7_151 rfl) (tw lx_7_152 rfl) (tw lx_7_150 rfl) hcB rfl hl.1 (by exact Nat.le_of_ble_eq_true rfl) hRA hLoA (by decide) (by decide) ⟨by show nA - 1 + (hB.1 - hA.1) ≤ 600000; rw [zcB]; exact rcB, by show wA + (hB.2.1 - hA.2.1) ≤ 7302250; rw [zsB]; exact rsB⟩ (fun HB locsB hRB hLoB => ?_)
  refine W.cs zcB zsB ?_
  refine W.eq (g2 := F0 m 735 la (xI zB :: [])) rfl ?_
  refine lv_pop hx0 hb dl_735 rfl ?_
  refine lv_goto (tgt := 1513) hx0 hb dl_736 (by decide) ?_
  exact K HB locsB (nB - 1) wB ⟨nB, wB, SB, ZB, hB, hxB, hGB, hRB, hLoB, hl, ⟨by have := hrB.1; omega, hrB.2⟩, rfl, rfl⟩
set_option maxHeartbeats 4000000 in
set_option maxRecDepth 100000 in
theorem lc_17 (C0 : lw_At p s m meth c b L xs) (hL : L ≤ 3072) (A : mx_Wx (tB l D s.heap.size ad s.heap tau) p s m #[Value.ref b] c code 4 R_law) {i : Nat} (hi : i + 6 ≤ L) {ph : Int} (hph : ph ≤ 10489) (hI : lw_I (tB l D s.heap.size ad s.heap tau) s b i ph H locs la cells slots) (K : ∀ (H : Heap) (locs : List Loc) (cells slots : Nat), lw_I (tB l D s.heap.size ad s.heap tau) s b i (ph + 20) H locs la cells slots → W p l e room_1 s m #[Value.ref b] below meth c H locs cells slots Q (F0 m 1513 la [])) : W p l e room_1 s m #[Value.ref b] below meth c H locs cells slots Q (F0 m 739 la []) := by
  obtain ⟨hx0, hb, hr, hml, hown, hts, hX, hbl, hlocks, hgv⟩ := id C0
  obtain ⟨nZ, wZ, SZ, ZZ, hZ, hxZ, hGZ, hRZ, hLoZ, hl, hrZ, rfl, rfl⟩ := hI
  have qZ : 0 ≤ ZZ 1 1 ∧ ZZ 1 1 ≤ 900 := hGZ.pr 1 1
  have hS := lw_S hRZ hLoZ
  refine lv_aload_n hx0 hb dl_739 rfl (lv_at hl 1 rfl) ?_
  refine lw_arg C0 hS hl (j := 1) (x := 1) (by omega) hL (by decide) (by decide +kernel) dl_740 dl_741 dl_742 dl_743 dl_744 ?_
  obtain ⟨zA, nA, wA, SA, ZA, hA, hcA, hxA, hGA, hqA⟩ := sf_106 (l := l) (D := D) (b0 := s.heap.size) (ad := ad) (Hb := s.heap) (tau := tau) (x0 := (xs (i + 1)).toInt) hxZ hGZ (iI_x (xs (i + 1))) (by omega)
  rw [eI (xs (i + 1))] at hcA
  obtain ⟨⟨zcA, zsA⟩, ⟨rcA, rsA⟩, hrA⟩ := lw_room hxZ hxA hGZ hrZ (by omega) hqA (mx_Ca_le hcA)
  refine W.eq (g2 := F0 m 745 la ((([.int (xs (i + 1))] : List Value).map (mx_v (tB l D s.heap.size ad s.heap tau).2.1.1)).reverse ++ .ref (mx_rho (tB l D s.heap.size ad s.heap tau).2.1.1 1) :: [])) rfl ?_
  refine mx_Wcallv (B := (tB l D s.heap.size ad s.heap tau)) (ci := 11) (r := cr_11) (n := 1) A dl_745 me_106 rfl (hxZ.obj (lt83 (GI_n hGZ) rfl) (GI_s hGZ 1 rfl)) (tw lx_4_138 rfl) (tw lx_4_139 rfl) (tw lx_4_137 rfl) hcA rfl hl.1 (by exact Nat.le_of_ble_eq_true rfl) hRZ hLoZ (by decide) (by decide) ⟨by show nZ - 1 + (hA.1 - hZ.1) ≤ 600000; rw [zcA]; exact rcA, by show wZ + (hA.2.1 - hZ.2.1) ≤ 7302250; rw [zsA]; exact rsA⟩ (fun HA locsA hRA hLoA => ?_)
  refine W.cs zcA zsA ?_
  have qA : 0 ≤ ZA 1 1 ∧ ZA 1 1 ≤ 900 := hGA.pr 1 1
  have hS1 := lw_S hRA hLoA
  clear hS
  have hS := hS1
  refine W.eq (g2 := F0 m 748 la (xI zA :: [])) rfl ?_
  refine lv_pop hx0 hb dl_748 rfl ?_
  refine lv_aload_n hx0 hb dl_749 rfl (lv_at hl 2 rfl) ?_
  refine lw_arg C0 hS hl (j := 1) (x := 1) (by omega) hL (by decide) (by decide +kernel) dl_750 dl_751 dl_752 dl_753 dl_754 ?_
  obtain ⟨zB, nB, wB, SB, ZB, hB, hcB, hxB, hGB, hqB⟩ := sf_233 (l := l) (D := D) (b0 := s.heap.size) (ad := ad) (Hb := s.heap) (tau := tau) (x0 := (xs (i + 1)).toInt) hxA hGA (iI_x (xs (i + 1))) (by omega)
  rw [eI (xs (i + 1))] at hcB
  obtain ⟨⟨zcB, zsB⟩, ⟨rcB, rsB⟩, hrB⟩ := lw_room hxA hxB hGA hrA (by omega) hqB (mx_Ca_le hcB)
  refine W.eq (g2 := F0 m 755 la ((([.int (xs (i + 1))] : List Value).map (mx_v (tB l D s.heap.size ad s.heap tau).2.1.1)).reverse ++ .ref (mx_rho (tB l D s.heap.size ad s.heap tau).2.1.1 56) :: [])) rfl ?_
  refine mx_Wcallv (B := (tB l D s.heap.size ad s.heap tau)) (ci := 12) (r := cr_12) (n := 1) A dl_755 me_233 rfl (hxA.obj (lt83 (GI_n hGA) rfl) (GI_s hGA 56 rfl)) (tw lx_7_155 rfl) (tw lx_7_156 rfl) (tw lx_7_154 rfl) hcB rfl hl.1 (by exact Nat.le_of_ble_eq_true rfl) hRA hLoA (by decide) (by decide) ⟨by show nA - 1 + (hB.1 - hA.1) ≤ 600000; rw [zcB]; exact rcB, by show wA + (hB.2.1 - hA.2.1) ≤ 7302250; rw [zsB]; exact rsB⟩ (fun HB locsB hRB hLoB => ?_)
  refine W.cs zcB zsB ?_
  refine W.eq (g2 := F0 m 758 la (xI zB :: [])) rfl ?_
  refine lv_pop hx0 hb dl_758 rfl ?_
  refine lv_goto (tgt := 1513) hx0 hb dl_759 (by decide) ?_
  exact K HB locsB (nB - 1) wB ⟨nB, wB, SB, ZB, hB, hxB, hGB, hRB, hLoB, hl, ⟨by have := hrB.1; omega, hrB.2⟩, rfl, rfl⟩
set_option maxHeartbeats 4000000 in
set_option maxRecDepth 100000 in
theorem lc_18 (C0 : lw_At p s m meth c b L xs) (hL : L ≤ 3072) (A : mx_Wx (tB l D s.heap.size ad s.heap tau) p s m #[Value.ref b] c code 4 R_law) {i : Nat} (hi : i + 6 ≤ L) {ph : Int} (hph : ph ≤ 10489) (hI : lw_I (tB l D s.heap.size ad s.heap tau) s b i ph H locs la cells slots) (K : ∀ (H : Heap) (locs : List Loc) (cells slots : Nat), lw_I (tB l D s.heap.size ad s.heap tau) s b i (ph + 20) H locs la cells slots → W p l e room_1 s m #[Value.ref b] below meth c H locs cells slots Q (F0 m 1513 la [])) : W p l e room_1 s m #[Value.ref b] below meth c H locs cells slots Q (F0 m 762 la []) := by
  obtain ⟨hx0, hb, hr, hml, hown, hts, hX, hbl, hlocks, hgv⟩ := id C0
  obtain ⟨nZ, wZ, SZ, ZZ, hZ, hxZ, hGZ, hRZ, hLoZ, hl, hrZ, rfl, rfl⟩ := hI
  have qZ : 0 ≤ ZZ 1 1 ∧ ZZ 1 1 ≤ 900 := hGZ.pr 1 1
  have hS := lw_S hRZ hLoZ
  refine lv_aload_n hx0 hb dl_762 rfl (lv_at hl 1 rfl) ?_
  refine lw_arg C0 hS hl (j := 1) (x := 1) (by omega) hL (by decide) (by decide +kernel) dl_763 dl_764 dl_765 dl_766 dl_767 ?_
  obtain ⟨zA, nA, wA, SA, ZA, hA, hcA, hxA, hGA, hqA⟩ := sf_107 (l := l) (D := D) (b0 := s.heap.size) (ad := ad) (Hb := s.heap) (tau := tau) (x0 := (xs (i + 1)).toInt) hxZ hGZ (iI_x (xs (i + 1))) (by omega)
  rw [eI (xs (i + 1))] at hcA
  obtain ⟨⟨zcA, zsA⟩, ⟨rcA, rsA⟩, hrA⟩ := lw_room hxZ hxA hGZ hrZ (by omega) hqA (mx_Ca_le hcA)
  refine W.eq (g2 := F0 m 768 la ((([.int (xs (i + 1))] : List Value).map (mx_v (tB l D s.heap.size ad s.heap tau).2.1.1)).reverse ++ .ref (mx_rho (tB l D s.heap.size ad s.heap tau).2.1.1 1) :: [])) rfl ?_
  refine mx_Wcallv (B := (tB l D s.heap.size ad s.heap tau)) (ci := 11) (r := cr_11) (n := 1) A dl_768 me_107 rfl (hxZ.obj (lt83 (GI_n hGZ) rfl) (GI_s hGZ 1 rfl)) (tw lx_4_158 rfl) (tw lx_4_159 rfl) (tw lx_4_157 rfl) hcA rfl hl.1 (by exact Nat.le_of_ble_eq_true rfl) hRZ hLoZ (by decide) (by decide) ⟨by show nZ - 1 + (hA.1 - hZ.1) ≤ 600000; rw [zcA]; exact rcA, by show wZ + (hA.2.1 - hZ.2.1) ≤ 7302250; rw [zsA]; exact rsA⟩ (fun HA locsA hRA hLoA => ?_)
  refine W.cs zcA zsA ?_
  have qA : 0 ≤ ZA 1 1 ∧ ZA 1 1 ≤ 900 := hGA.pr 1 1
  have hS1 := lw_S hRA hLoA
  clear hS
  have hS := hS1
  refine W.eq (g2 := F0 m 771 la (xI zA :: [])) rfl ?_
  refine lv_pop hx0 hb dl_771 rfl ?_
  refine lv_aload_n hx0 hb dl_772 rfl (lv_at hl 2 rfl) ?_
  refine lw_arg C0 hS hl (j := 1) (x := 1) (by omega) hL (by decide) (by decide +kernel) dl_773 dl_774 dl_775 dl_776 dl_777 ?_
  obtain ⟨zB, nB, wB, SB, ZB, hB, hcB, hxB, hGB, hqB⟩ := sf_234 (l := l) (D := D) (b0 := s.heap.size) (ad := ad) (Hb := s.heap) (tau := tau) (x0 := (xs (i + 1)).toInt) hxA hGA (iI_x (xs (i + 1))) (by omega)
  rw [eI (xs (i + 1))] at hcB
  obtain ⟨⟨zcB, zsB⟩, ⟨rcB, rsB⟩, hrB⟩ := lw_room hxA hxB hGA hrA (by omega) hqB (mx_Ca_le hcB)
  refine W.eq (g2 := F0 m 778 la ((([.int (xs (i + 1))] : List Value).map (mx_v (tB l D s.heap.size ad s.heap tau).2.1.1)).reverse ++ .ref (mx_rho (tB l D s.heap.size ad s.heap tau).2.1.1 56) :: [])) rfl ?_
  refine mx_Wcallv (B := (tB l D s.heap.size ad s.heap tau)) (ci := 12) (r := cr_12) (n := 1) A dl_778 me_234 rfl (hxA.obj (lt83 (GI_n hGA) rfl) (GI_s hGA 56 rfl)) (tw lx_7_172 rfl) (tw lx_7_173 rfl) (tw lx_7_171 rfl) hcB rfl hl.1 (by exact Nat.le_of_ble_eq_true rfl) hRA hLoA (by decide) (by decide) ⟨by show nA - 1 + (hB.1 - hA.1) ≤ 600000; rw [zcB]; exact rcB, by show wA + (hB.2.1 - hA.2.1) ≤ 7302250; rw [zsB]; exact rsB⟩ (fun HB locsB hRB hLoB => ?_)
  refine W.cs zcB zsB ?_
  refine W.eq (g2 := F0 m 781 la (xI zB :: [])) rfl ?_
  refine lv_pop hx0 hb dl_781 rfl ?_
  refine lv_goto (tgt := 1513) hx0 hb dl_782 (by decide) ?_
  exact K HB locsB (nB - 1) wB ⟨nB, wB, SB, ZB, hB, hxB, hGB, hRB, hLoB, hl, ⟨by have := hrB.1; omega, hrB.2⟩, rfl, rfl⟩
set_option maxHeartbeats 4000000 in
set_option maxRecDepth 100000 in
theorem lc_19 (C0 : lw_At p s m meth c b L xs) (hL : L ≤ 3072) (A : mx_Wx (tB l D s.heap.size ad s.heap tau) p s m #[Value.ref b] c code 4 R_law) {i : Nat} (hi : i + 6 ≤ L) {ph : Int} (hph : ph ≤ 10489) (hI : lw_I (tB l D s.heap.size ad s.heap tau) s b i ph H locs la cells slots) (K : ∀ (H : Heap) (locs : List Loc) (cells slots : Nat), lw_I (tB l D s.heap.size ad s.heap tau) s b i (ph + 20) H locs la cells slots → W p l e room_1 s m #[Value.ref b] below meth c H locs cells slots Q (F0 m 1513 la [])) : W p l e room_1 s m #[Value.ref b] below meth c H locs cells slots Q (F0 m 785 la []) := by
  obtain ⟨hx0, hb, hr, hml, hown, hts, hX, hbl, hlocks, hgv⟩ := id C0
  obtain ⟨nZ, wZ, SZ, ZZ, hZ, hxZ, hGZ, hRZ, hLoZ, hl, hrZ, rfl, rfl⟩ := hI
  have qZ : 0 ≤ ZZ 1 1 ∧ ZZ 1 1 ≤ 900 := hGZ.pr 1 1
  have hS := lw_S hRZ hLoZ
  refine lv_aload_n hx0 hb dl_785 rfl (lv_at hl 1 rfl) ?_
  refine lw_arg C0 hS hl (j := 1) (x := 1) (by omega) hL (by decide) (by decide +kernel) dl_786 dl_787 dl_788 dl_789 dl_790 ?_
  obtain ⟨zA, nA, wA, SA, ZA, hA, hcA, hxA, hGA, hqA⟩ := sf_108 (l := l) (D := D) (b0 := s.heap.size) (ad := ad) (Hb := s.heap) (tau := tau) (x0 := (xs (i + 1)).toInt) hxZ hGZ (iI_x (xs (i + 1))) (by omega)
  rw [eI (xs (i + 1))] at hcA
  obtain ⟨⟨zcA, zsA⟩, ⟨rcA, rsA⟩, hrA⟩ := lw_room hxZ hxA hGZ hrZ (by omega) hqA (mx_Ca_le hcA)
  refine W.eq (g2 := F0 m 791 la ((([.int (xs (i + 1))] : List Value).map (mx_v (tB l D s.heap.size ad s.heap tau).2.1.1)).reverse ++ .ref (mx_rho (tB l D s.heap.size ad s.heap tau).2.1.1 1) :: [])) rfl ?_
  refine mx_Wcallv (B := (tB l D s.heap.size ad s.heap tau)) (ci := 11) (r := cr_11) (n := 1) A dl_791 me_108 rfl (hxZ.obj (lt83 (GI_n hGZ) rfl) (GI_s hGZ 1 rfl)) (tw lx_4_166 rfl) (tw lx_4_167 rfl) (tw lx_4_165 rfl) hcA rfl hl.1 (by exact Nat.le_of_ble_eq_true rfl) hRZ hLoZ (by decide) (by decide) ⟨by show nZ - 1 + (hA.1 - hZ.1) ≤ 600000; rw [zcA]; exact rcA, by show wZ + (hA.2.1 - hZ.2.1) ≤ 7302250; rw [zsA]; exact rsA⟩ (fun HA locsA hRA hLoA => ?_)
  refine W.cs zcA zsA ?_
  have qA : 0 ≤ ZA 1 1 ∧ ZA 1 1 ≤ 900 := hGA.pr 1 1
  have hS1 := lw_S hRA hLoA
  clear hS
  have hS := hS1
  refine W.eq (g2 := F0 m 794 la (xI zA :: [])) rfl ?_
  refine lv_pop hx0 hb dl_794 rfl ?_
  refine lv_aload_n hx0 hb dl_795 rfl (lv_at hl 2 rfl) ?_
  refine lw_arg C0 hS hl (j := 1) (x := 1) (by omega) hL (by decide) (by decide +kernel) dl_796 dl_797 dl_798 dl_799 dl_800 ?_
  obtain ⟨zB, nB, wB, SB, ZB, hB, hcB, hxB, hGB, hqB⟩ := sf_241 (l := l) (D := D) (b0 := s.heap.size) (ad := ad) (Hb := s.heap) (tau := tau) (x0 := (xs (i + 1)).toInt) hxA hGA (iI_x (xs (i + 1))) (by omega)
  rw [eI (xs (i + 1))] at hcB
  obtain ⟨⟨zcB, zsB⟩, ⟨rcB, rsB⟩, hrB⟩ := lw_room hxA hxB hGA hrA (by omega) hqB (mx_Ca_le hcB)
  refine W.eq (g2 := F0 m 801 la ((([.int (xs (i + 1))] : List Value).map (mx_v (tB l D s.heap.size ad s.heap tau).2.1.1)).reverse ++ .ref (mx_rho (tB l D s.heap.size ad s.heap tau).2.1.1 56) :: [])) rfl ?_
  refine mx_Wcallv (B := (tB l D s.heap.size ad s.heap tau)) (ci := 12) (r := cr_12) (n := 1) A dl_801 me_241 rfl (hxA.obj (lt83 (GI_n hGA) rfl) (GI_s hGA 56 rfl)) (tw lx_7_176 rfl) (tw lx_7_177 rfl) (tw lx_7_175 rfl) hcB rfl hl.1 (by exact Nat.le_of_ble_eq_true rfl) hRA hLoA (by decide) (by decide) ⟨by show nA - 1 + (hB.1 - hA.1) ≤ 600000; rw [zcB]; exact rcB, by show wA + (hB.2.1 - hA.2.1) ≤ 7302250; rw [zsB]; exact rsB⟩ (fun HB locsB hRB hLoB => ?_)
  refine W.cs zcB zsB ?_
  refine W.eq (g2 := F0 m 804 la (xI zB :: [])) rfl ?_
  refine lv_pop hx0 hb dl_804 rfl ?_
  refine lv_goto (tgt := 1513) hx0 hb dl_805 (by decide) ?_
  exact K HB locsB (nB - 1) wB ⟨nB, wB, SB, ZB, hB, hxB, hGB, hRB, hLoB, hl, ⟨by have := hrB.1; omega, hrB.2⟩, rfl, rfl⟩
set_option maxHeartbeats 4000000 in
set_option maxRecDepth 100000 in
theorem lc_20 (C0 : lw_At p s m meth c b L xs) (hL : L ≤ 3072) (A : mx_Wx (tB l D s.heap.size ad s.heap tau) p s m #[Value.ref b] c code 4 R_law) {i : Nat} (hi : i + 6 ≤ L) {ph : Int} (hph : ph ≤ 10489) (hI : lw_I (tB l D s.heap.size ad s.heap tau) s b i ph H locs la cells slots) (K : ∀ (H : Heap) (locs : List Loc) (cells slots : Nat), lw_I (tB l D s.heap.size ad s.heap tau) s b i (ph + 20) H locs la cells slots → W p l e room_1 s m #[Value.ref b] below meth c H locs cells slots Q (F0 m 1513 la [])) : W p l e room_1 s m #[Value.ref b] below meth c H locs cells slots Q (F0 m 808 la []) := by
  obtain ⟨hx0, hb, hr, hml, hown, hts, hX, hbl, hlocks, hgv⟩ := id C0
  obtain ⟨nZ, wZ, SZ, ZZ, hZ, hxZ, hGZ, hRZ, hLoZ, hl, hrZ, rfl, rfl⟩ := hI
  have qZ : 0 ≤ ZZ 1 1 ∧ ZZ 1 1 ≤ 900 := hGZ.pr 1 1
  have hS := lw_S hRZ hLoZ
  refine lv_aload_n hx0 hb dl_808 rfl (lv_at hl 1 rfl) ?_
  refine lw_arg C0 hS hl (j := 1) (x := 1) (by omega) hL (by decide) (by decide +kernel) dl_809 dl_810 dl_811 dl_812 dl_813 ?_
  refine lw_arg C0 hS hl (j := 2) (x := 2) (by omega) hL (by decide) (by decide +kernel) dl_814 dl_815 dl_816 dl_817 dl_818 ?_
  obtain ⟨zA, nA, wA, SA, ZA, hA, hcA, hxA, hGA, hqA⟩ := sf_109 (l := l) (D := D) (b0 := s.heap.size) (ad := ad) (Hb := s.heap) (tau := tau) (x0 := (xs (i + 1)).toInt) (x1 := (xs (i + 2)).toInt) hxZ hGZ (iI_x (xs (i + 1))) (iI_x (xs (i + 2))) (by omega)
  rw [eI (xs (i + 1)), eI (xs (i + 2))] at hcA
  obtain ⟨⟨zcA, zsA⟩, ⟨rcA, rsA⟩, hrA⟩ := lw_room hxZ hxA hGZ hrZ (by omega) hqA (mx_Ca_le hcA)
  refine W.eq (g2 := F0 m 819 la ((([.int (xs (i + 1)), .int (xs (i + 2))] : List Value).map (mx_v (tB l D s.heap.size ad s.heap tau).2.1.1)).reverse ++ .ref (mx_rho (tB l D s.heap.size ad s.heap tau).2.1.1 1) :: [])) rfl ?_
  refine mx_Wcallv (B := (tB l D s.heap.size ad s.heap tau)) (ci := 11) (r := cr_11) (n := 2) A dl_819 me_109 rfl (hxZ.obj (lt83 (GI_n hGZ) rfl) (GI_s hGZ 1 rfl)) (tw lx_4_191 rfl) (tw lx_4_192 rfl) (tw lx_4_190 rfl) hcA rfl hl.1 (by exact Nat.le_of_ble_eq_true rfl) hRZ hLoZ (by decide) (by decide) ⟨by show nZ - 1 + (hA.1 - hZ.1) ≤ 600000; rw [zcA]; exact rcA, by show wZ + (hA.2.1 - hZ.2.1) ≤ 7302250; rw [zsA]; exact rsA⟩ (fun HA locsA hRA hLoA => ?_)
  refine W.cs zcA zsA ?_
  have qA : 0 ≤ ZA 1 1 ∧ ZA 1 1 ≤ 900 := hGA.pr 1 1
  have hS1 := lw_S hRA hLoA
  clear hS
  have hS := hS1
  refine W.eq (g2 := F0 m 822 la (xI zA :: [])) rfl ?_
  refine lv_pop hx0 hb dl_822 rfl ?_
  refine lv_aload_n hx0 hb dl_823 rfl (lv_at hl 2 rfl) ?_
  refine lw_arg C0 hS hl (j := 1) (x := 1) (by omega) hL (by decide) (by decide +kernel) dl_824 dl_825 dl_826 dl_827 dl_828 ?_
  refine lw_arg C0 hS hl (j := 2) (x := 2) (by omega) hL (by decide) (by decide +kernel) dl_829 dl_830 dl_831 dl_832 dl_833 ?_
  obtain ⟨zB, nB, wB, SB, ZB, hB, hcB, hxB, hGB, hqB⟩ := sf_242 (l := l) (D := D) (b0 := s.heap.size) (ad := ad) (Hb := s.heap) (tau := tau) (x0 := (xs (i + 1)).toInt) (x1 := (xs (i + 2)).toInt) hxA hGA (iI_x (xs (i + 1))) (iI_x (xs (i + 2))) (by omega)
  rw [eI (xs (i + 1)), eI (xs (i + 2))] at hcB
  obtain ⟨⟨zcB, zsB⟩, ⟨rcB, rsB⟩, hrB⟩ := lw_room hxA hxB hGA hrA (by omega) hqB (mx_Ca_le hcB)
  refine W.eq (g2 := F0 m 834 la ((([.int (xs (i + 1)), .int (xs (i + 2))] : List Value).map (mx_v (tB l D s.heap.size ad s.heap tau).2.1.1)).reverse ++ .ref (mx_rho (tB l D s.heap.size ad s.heap tau).2.1.1 56) :: [])) rfl ?_
  refine mx_Wcallv (B := (tB l D s.heap.size ad s.heap tau)) (ci := 12) (r := cr_12) (n := 2) A dl_834 me_242 rfl (hxA.obj (lt83 (GI_n hGA) rfl) (GI_s hGA 56 rfl)) (tw lx_7_204 rfl) (tw lx_7_205 rfl) (tw lx_7_203 rfl) hcB rfl hl.1 (by exact Nat.le_of_ble_eq_true rfl) hRA hLoA (by decide) (by decide) ⟨by show nA - 1 + (hB.1 - hA.1) ≤ 600000; rw [zcB]; exact rcB, by show wA + (hB.2.1 - hA.2.1) ≤ 7302250; rw [zsB]; exact rsB⟩ (fun HB locsB hRB hLoB => ?_)
  refine W.cs zcB zsB ?_
  refine W.eq (g2 := F0 m 837 la (xI zB :: [])) rfl ?_
  refine lv_pop hx0 hb dl_837 rfl ?_
  refine lv_goto (tgt := 1513) hx0 hb dl_838 (by decide) ?_
  exact K HB locsB (nB - 1) wB ⟨nB, wB, SB, ZB, hB, hxB, hGB, hRB, hLoB, hl, ⟨by have := hrB.1; omega, hrB.2⟩, rfl, rfl⟩
set_option maxHeartbeats 4000000 in
set_option maxRecDepth 100000 in
theorem lc_21 (C0 : lw_At p s m meth c b L xs) (hL : L ≤ 3072) (A : mx_Wx (tB l D s.heap.size ad s.heap tau) p s m #[Value.ref b] c code 4 R_law) {i : Nat} (hi : i + 6 ≤ L) {ph : Int} (hph : ph ≤ 10489) (hI : lw_I (tB l D s.heap.size ad s.heap tau) s b i ph H locs la cells slots) (K : ∀ (H : Heap) (locs : List Loc) (cells slots : Nat), lw_I (tB l D s.heap.size ad s.heap tau) s b i (ph + 20) H locs la cells slots → W p l e room_1 s m #[Value.ref b] below meth c H locs cells slots Q (F0 m 1513 la [])) : W p l e room_1 s m #[Value.ref b] below meth c H locs cells slots Q (F0 m 841 la []) := by
  obtain ⟨hx0, hb, hr, hml, hown, hts, hX, hbl, hlocks, hgv⟩ := id C0
  obtain ⟨nZ, wZ, SZ, ZZ, hZ, hxZ, hGZ, hRZ, hLoZ, hl, hrZ, rfl, rfl⟩ := hI
  have qZ : 0 ≤ ZZ 1 1 ∧ ZZ 1 1 ≤ 900 := hGZ.pr 1 1
  have hS := lw_S hRZ hLoZ
  refine lv_aload_n hx0 hb dl_841 rfl (lv_at hl 1 rfl) ?_
  refine lw_arg C0 hS hl (j := 1) (x := 1) (by omega) hL (by decide) (by decide +kernel) dl_842 dl_843 dl_844 dl_845 dl_846 ?_
  refine lw_arg C0 hS hl (j := 2) (x := 2) (by omega) hL (by decide) (by decide +kernel) dl_847 dl_848 dl_849 dl_850 dl_851 ?_
  obtain ⟨zA, nA, wA, SA, ZA, hA, hcA, hxA, hGA, hqA⟩ := sf_110 (l := l) (D := D) (b0 := s.heap.size) (ad := ad) (Hb := s.heap) (tau := tau) (x0 := (xs (i + 1)).toInt) (x1 := (xs (i + 2)).toInt) hxZ hGZ (iI_x (xs (i + 1))) (iI_x (xs (i + 2))) (by omega)
  rw [eI (xs (i + 1)), eI (xs (i + 2))] at hcA
  obtain ⟨⟨zcA, zsA⟩, ⟨rcA, rsA⟩, hrA⟩ := lw_room hxZ hxA hGZ hrZ (by omega) hqA (mx_Ca_le hcA)
  refine W.eq (g2 := F0 m 852 la ((([.int (xs (i + 1)), .int (xs (i + 2))] : List Value).map (mx_v (tB l D s.heap.size ad s.heap tau).2.1.1)).reverse ++ .ref (mx_rho (tB l D s.heap.size ad s.heap tau).2.1.1 1) :: [])) rfl ?_
  refine mx_Wcallv (B := (tB l D s.heap.size ad s.heap tau)) (ci := 11) (r := cr_11) (n := 2) A dl_852 me_110 rfl (hxZ.obj (lt83 (GI_n hGZ) rfl) (GI_s hGZ 1 rfl)) (tw lx_4_199 rfl) (tw lx_4_200 rfl) (tw lx_4_198 rfl) hcA rfl hl.1 (by exact Nat.le_of_ble_eq_true rfl) hRZ hLoZ (by decide) (by decide) ⟨by show nZ - 1 + (hA.1 - hZ.1) ≤ 600000; rw [zcA]; exact rcA, by show wZ + (hA.2.1 - hZ.2.1) ≤ 7302250; rw [zsA]; exact rsA⟩ (fun HA locsA hRA hLoA => ?_)
  refine W.cs zcA zsA ?_
  have qA : 0 ≤ ZA 1 1 ∧ ZA 1 1 ≤ 900 := hGA.pr 1 1
  have hS1 := lw_S hRA hLoA
  clear hS
  have hS := hS1
  refine W.eq (g2 := F0 m 855 la (xL zA :: [])) rfl ?_
  refine lv_pop2_2 hx0 hb dl_855 rfl ?_
  refine lv_aload_n hx0 hb dl_856 rfl (lv_at hl 2 rfl) ?_
  refine lw_arg C0 hS hl (j := 1) (x := 1) (by omega) hL (by decide) (by decide +kernel) dl_857 dl_858 dl_859 dl_860 dl_861 ?_
  refine lw_arg C0 hS hl (j := 2) (x := 2) (by omega) hL (by decide) (by decide +kernel) dl_862 dl_863 dl_864 dl_865 dl_866 ?_
  obtain ⟨zB, nB, wB, SB, ZB, hB, hcB, hxB, hGB, hqB⟩ := sf_245 (l := l) (D := D) (b0 := s.heap.size) (ad := ad) (Hb := s.heap) (tau := tau) (x0 := (xs (i + 1)).toInt) (x1 := (xs (i + 2)).toInt) hxA hGA (iI_x (xs (i + 1))) (iI_x (xs (i + 2))) (by omega)
  rw [eI (xs (i + 1)), eI (xs (i + 2))] at hcB
  obtain ⟨⟨zcB, zsB⟩, ⟨rcB, rsB⟩, hrB⟩ := lw_room hxA hxB hGA hrA (by omega) hqB (mx_Ca_le hcB)
  refine W.eq (g2 := F0 m 867 la ((([.int (xs (i + 1)), .int (xs (i + 2))] : List Value).map (mx_v (tB l D s.heap.size ad s.heap tau).2.1.1)).reverse ++ .ref (mx_rho (tB l D s.heap.size ad s.heap tau).2.1.1 56) :: [])) rfl ?_
  refine mx_Wcallv (B := (tB l D s.heap.size ad s.heap tau)) (ci := 12) (r := cr_12) (n := 2) A dl_867 me_245 rfl (hxA.obj (lt83 (GI_n hGA) rfl) (GI_s hGA 56 rfl)) (tw lx_7_208 rfl) (tw lx_7_209 rfl) (tw lx_7_207 rfl) hcB rfl hl.1 (by exact Nat.le_of_ble_eq_true rfl) hRA hLoA (by decide) (by decide) ⟨by show nA - 1 + (hB.1 - hA.1) ≤ 600000; rw [zcB]; exact rcB, by show wA + (hB.2.1 - hA.2.1) ≤ 7302250; rw [zsB]; exact rsB⟩ (fun HB locsB hRB hLoB => ?_)
  refine W.cs zcB zsB ?_
  refine W.eq (g2 := F0 m 870 la (xL zB :: [])) rfl ?_
  refine lv_pop2_2 hx0 hb dl_870 rfl ?_
  refine lv_goto (tgt := 1513) hx0 hb dl_871 (by decide) ?_
  exact K HB locsB (nB - 1) wB ⟨nB, wB, SB, ZB, hB, hxB, hGB, hRB, hLoB, hl, ⟨by have := hrB.1; omega, hrB.2⟩, rfl, rfl⟩
set_option maxHeartbeats 4000000 in
set_option maxRecDepth 100000 in
theorem lc_22 (C0 : lw_At p s m meth c b L xs) (hL : L ≤ 3072) (A : mx_Wx (tB l D s.heap.size ad s.heap tau) p s m #[Value.ref b] c code 4 R_law) {i : Nat} (hi : i + 6 ≤ L) {ph : Int} (hph : ph ≤ 10489) (hI : lw_I (tB l D s.heap.size ad s.heap tau) s b i ph H locs la cells slots) (K : ∀ (H : Heap) (locs : List Loc) (cells slots : Nat), lw_I (tB l D s.heap.size ad s.heap tau) s b i (ph + 20) H locs la cells slots → W p l e room_1 s m #[Value.ref b] below meth c H locs cells slots Q (F0 m 1513 la [])) : W p l e room_1 s m #[Value.ref b] below meth c H locs cells slots Q (F0 m 874 la []) := by
  obtain ⟨hx0, hb, hr, hml, hown, hts, hX, hbl, hlocks, hgv⟩ := id C0
  obtain ⟨nZ, wZ, SZ, ZZ, hZ, hxZ, hGZ, hRZ, hLoZ, hl, hrZ, rfl, rfl⟩ := hI
  have qZ : 0 ≤ ZZ 1 1 ∧ ZZ 1 1 ≤ 900 := hGZ.pr 1 1
  have hS := lw_S hRZ hLoZ
  refine lv_aload_n hx0 hb dl_874 rfl (lv_at hl 1 rfl) ?_
  refine lw_arg C0 hS hl (j := 1) (x := 1) (by omega) hL (by decide) (by decide +kernel) dl_875 dl_876 dl_877 dl_878 dl_879 ?_
  obtain ⟨zA, nA, wA, SA, ZA, hA, hcA, hxA, hGA, hqA⟩ := sf_111 (l := l) (D := D) (b0 := s.heap.size) (ad := ad) (Hb := s.heap) (tau := tau) (x0 := (xs (i + 1)).toInt) hxZ hGZ (iI_x (xs (i + 1))) (by omega)
  rw [eI (xs (i + 1))] at hcA
  obtain ⟨⟨zcA, zsA⟩, ⟨rcA, rsA⟩, hrA⟩ := lw_room hxZ hxA hGZ hrZ (by omega) hqA (mx_Ca_le hcA)
  refine W.eq (g2 := F0 m 880 la ((([.int (xs (i + 1))] : List Value).map (mx_v (tB l D s.heap.size ad s.heap tau).2.1.1)).reverse ++ .ref (mx_rho (tB l D s.heap.size ad s.heap tau).2.1.1 1) :: [])) rfl ?_
  refine mx_Wcallv (B := (tB l D s.heap.size ad s.heap tau)) (ci := 11) (r := cr_11) (n := 1) A dl_880 me_111 rfl (hxZ.obj (lt83 (GI_n hGZ) rfl) (GI_s hGZ 1 rfl)) (tw lx_4_223 rfl) (tw lx_4_224 rfl) (tw lx_4_222 rfl) hcA rfl hl.1 (by exact Nat.le_of_ble_eq_true rfl) hRZ hLoZ (by decide) (by decide) ⟨by show nZ - 1 + (hA.1 - hZ.1) ≤ 600000; rw [zcA]; exact rcA, by show wZ + (hA.2.1 - hZ.2.1) ≤ 7302250; rw [zsA]; exact rsA⟩ (fun HA locsA hRA hLoA => ?_)
  refine W.cs zcA zsA ?_
  have qA : 0 ≤ ZA 1 1 ∧ ZA 1 1 ≤ 900 := hGA.pr 1 1
  have hS1 := lw_S hRA hLoA
  clear hS
  have hS := hS1
  refine W.eq (g2 := F0 m 883 la (xI zA :: [])) rfl ?_
  refine lv_pop hx0 hb dl_883 rfl ?_
  refine lv_aload_n hx0 hb dl_884 rfl (lv_at hl 2 rfl) ?_
  refine lw_arg C0 hS hl (j := 1) (x := 1) (by omega) hL (by decide) (by decide +kernel) dl_885 dl_886 dl_887 dl_888 dl_889 ?_
  obtain ⟨zB, nB, wB, SB, ZB, hB, hcB, hxB, hGB, hqB⟩ := sf_247 (l := l) (D := D) (b0 := s.heap.size) (ad := ad) (Hb := s.heap) (tau := tau) (x0 := (xs (i + 1)).toInt) hxA hGA (iI_x (xs (i + 1))) (by omega)
  rw [eI (xs (i + 1))] at hcB
  obtain ⟨⟨zcB, zsB⟩, ⟨rcB, rsB⟩, hrB⟩ := lw_room hxA hxB hGA hrA (by omega) hqB (mx_Ca_le hcB)
  refine W.eq (g2 := F0 m 890 la ((([.int (xs (i + 1))] : List Value).map (mx_v (tB l D s.heap.size ad s.heap tau).2.1.1)).reverse ++ .ref (mx_rho (tB l D s.heap.size ad s.heap tau).2.1.1 56) :: [])) rfl ?_
  refine mx_Wcallv (B := (tB l D s.heap.size ad s.heap tau)) (ci := 12) (r := cr_12) (n := 1) A dl_890 me_247 rfl (hxA.obj (lt83 (GI_n hGA) rfl) (GI_s hGA 56 rfl)) (tw lx_7_221 rfl) (tw lx_7_222 rfl) (tw lx_7_220 rfl) hcB rfl hl.1 (by exact Nat.le_of_ble_eq_true rfl) hRA hLoA (by decide) (by decide) ⟨by show nA - 1 + (hB.1 - hA.1) ≤ 600000; rw [zcB]; exact rcB, by show wA + (hB.2.1 - hA.2.1) ≤ 7302250; rw [zsB]; exact rsB⟩ (fun HB locsB hRB hLoB => ?_)
  refine W.cs zcB zsB ?_
  refine W.eq (g2 := F0 m 893 la (xI zB :: [])) rfl ?_
  refine lv_pop hx0 hb dl_893 rfl ?_
  refine lv_goto (tgt := 1513) hx0 hb dl_894 (by decide) ?_
  exact K HB locsB (nB - 1) wB ⟨nB, wB, SB, ZB, hB, hxB, hGB, hRB, hLoB, hl, ⟨by have := hrB.1; omega, hrB.2⟩, rfl, rfl⟩
set_option maxHeartbeats 4000000 in
set_option maxRecDepth 100000 in
theorem lc_23 (C0 : lw_At p s m meth c b L xs) (hL : L ≤ 3072) (A : mx_Wx (tB l D s.heap.size ad s.heap tau) p s m #[Value.ref b] c code 4 R_law) {i : Nat} (hi : i + 6 ≤ L) {ph : Int} (hph : ph ≤ 10489) (hI : lw_I (tB l D s.heap.size ad s.heap tau) s b i ph H locs la cells slots) (K : ∀ (H : Heap) (locs : List Loc) (cells slots : Nat), lw_I (tB l D s.heap.size ad s.heap tau) s b i (ph + 20) H locs la cells slots → W p l e room_1 s m #[Value.ref b] below meth c H locs cells slots Q (F0 m 1513 la [])) : W p l e room_1 s m #[Value.ref b] below meth c H locs cells slots Q (F0 m 897 la []) := by
  obtain ⟨hx0, hb, hr, hml, hown, hts, hX, hbl, hlocks, hgv⟩ := id C0
  obtain ⟨nZ, wZ, SZ, ZZ, hZ, hxZ, hGZ, hRZ, hLoZ, hl, hrZ, rfl, rfl⟩ := hI
  have qZ : 0 ≤ ZZ 1 1 ∧ ZZ 1 1 ≤ 900 := hGZ.pr 1 1
  have hS := lw_S hRZ hLoZ
  refine lv_aload_n hx0 hb dl_897 rfl (lv_at hl 1 rfl) ?_
  obtain ⟨zA, nA, wA, SA, ZA, hA, hcA, hxA, hGA, hqA⟩ := sf_112 (l := l) (D := D) (b0 := s.heap.size) (ad := ad) (Hb := s.heap) (tau := tau) hxZ hGZ (by omega)
  obtain ⟨⟨zcA, zsA⟩, ⟨rcA, rsA⟩, hrA⟩ := lw_room hxZ hxA hGZ hrZ (by omega) hqA (mx_Ca_le hcA)
  refine W.eq (g2 := F0 m 898 la ((([] : List Value).map (mx_v (tB l D s.heap.size ad s.heap tau).2.1.1)).reverse ++ .ref (mx_rho (tB l D s.heap.size ad s.heap tau).2.1.1 1) :: [])) rfl ?_
  refine mx_Wcallv (B := (tB l D s.heap.size ad s.heap tau)) (ci := 11) (r := cr_11) (n := 0) A dl_898 me_112 rfl (hxZ.obj (lt83 (GI_n hGZ) rfl) (GI_s hGZ 1 rfl)) (tw lx_4_238 rfl) (tw lx_4_239 rfl) (tw lx_4_237 rfl) hcA rfl hl.1 (by exact Nat.le_of_ble_eq_true rfl) hRZ hLoZ (by decide) (by decide) ⟨by show nZ - 1 + (hA.1 - hZ.1) ≤ 600000; rw [zcA]; exact rcA, by show wZ + (hA.2.1 - hZ.2.1) ≤ 7302250; rw [zsA]; exact rsA⟩ (fun HA locsA hRA hLoA => ?_)
  refine W.cs zcA zsA ?_
  have qA : 0 ≤ ZA 1 1 ∧ ZA 1 1 ≤ 900 := hGA.pr 1 1
  have hS1 := lw_S hRA hLoA
  clear hS
  have hS := hS1
  refine W.eq (g2 := F0 m 901 la (xI zA :: [])) rfl ?_
  refine lv_pop hx0 hb dl_901 rfl ?_
  refine lv_aload_n hx0 hb dl_902 rfl (lv_at hl 2 rfl) ?_
  obtain ⟨zB, nB, wB, SB, ZB, hB, hcB, hxB, hGB, hqB⟩ := sf_248 (l := l) (D := D) (b0 := s.heap.size) (ad := ad) (Hb := s.heap) (tau := tau) hxA hGA (by omega)
  obtain ⟨⟨zcB, zsB⟩, ⟨rcB, rsB⟩, hrB⟩ := lw_room hxA hxB hGA hrA (by omega) hqB (mx_Ca_le hcB)
  refine W.eq (g2 := F0 m 903 la ((([] : List Value).map (mx_v (tB l D s.heap.size ad s.heap tau).2.1.1)).reverse ++ .ref (mx_rho (tB l D s.heap.size ad s.heap tau).2.1.1 56) :: [])) rfl ?_
  refine mx_Wcallv (B := (tB l D s.heap.size ad s.heap tau)) (ci := 12) (r := cr_12) (n := 0) A dl_903 me_248 rfl (hxA.obj (lt83 (GI_n hGA) rfl) (GI_s hGA 56 rfl)) (tw lx_7_229 rfl) (tw lx_7_230 rfl) (tw lx_7_228 rfl) hcB rfl hl.1 (by exact Nat.le_of_ble_eq_true rfl) hRA hLoA (by decide) (by decide) ⟨by show nA - 1 + (hB.1 - hA.1) ≤ 600000; rw [zcB]; exact rcB, by show wA + (hB.2.1 - hA.2.1) ≤ 7302250; rw [zsB]; exact rsB⟩ (fun HB locsB hRB hLoB => ?_)
  refine W.cs zcB zsB ?_
  refine W.eq (g2 := F0 m 906 la (xI zB :: [])) rfl ?_
  refine lv_pop hx0 hb dl_906 rfl ?_
  refine lv_goto (tgt := 1513) hx0 hb dl_907 (by decide) ?_
  exact K HB locsB (nB - 1) wB ⟨nB, wB, SB, ZB, hB, hxB, hGB, hRB, hLoB, hl, ⟨by have := hrB.1; omega, hrB.2⟩, rfl, rfl⟩
set_option maxHeartbeats 4000000 in
set_option maxRecDepth 100000 in
theorem lc_24 (C0 : lw_At p s m meth c b L xs) (hL : L ≤ 3072) (A : mx_Wx (tB l D s.heap.size ad s.heap tau) p s m #[Value.ref b] c code 4 R_law) {i : Nat} (hi : i + 6 ≤ L) {ph : Int} (hph : ph ≤ 10489) (hI : lw_I (tB l D s.heap.size ad s.heap tau) s b i ph H locs la cells slots) (K : ∀ (H : Heap) (locs : List Loc) (cells slots : Nat), lw_I (tB l D s.heap.size ad s.heap tau) s b i (ph + 20) H locs la cells slots → W p l e room_1 s m #[Value.ref b] below meth c H locs cells slots Q (F0 m 1513 la [])) : W p l e room_1 s m #[Value.ref b] below meth c H locs cells slots Q (F0 m 910 la []) := by
  obtain ⟨hx0, hb, hr, hml, hown, hts, hX, hbl, hlocks, hgv⟩ := id C0
  obtain ⟨nZ, wZ, SZ, ZZ, hZ, hxZ, hGZ, hRZ, hLoZ, hl, hrZ, rfl, rfl⟩ := hI
  have qZ : 0 ≤ ZZ 1 1 ∧ ZZ 1 1 ≤ 900 := hGZ.pr 1 1
  have hS := lw_S hRZ hLoZ
  refine lv_aload_n hx0 hb dl_910 rfl (lv_at hl 1 rfl) ?_
  refine lw_arg C0 hS hl (j := 1) (x := 1) (by omega) hL (by decide) (by decide +kernel) dl_911 dl_912 dl_913 dl_914 dl_915 ?_
  obtain ⟨zA, nA, wA, SA, ZA, hA, hcA, hxA, hGA, hqA⟩ := sf_113 (l := l) (D := D) (b0 := s.heap.size) (ad := ad) (Hb := s.heap) (tau := tau) (x0 := (xs (i + 1)).toInt) hxZ hGZ (iI_x (xs (i + 1))) (by omega)
  rw [eI (xs (i + 1))] at hcA
  obtain ⟨⟨zcA, zsA⟩, ⟨rcA, rsA⟩, hrA⟩ := lw_room hxZ hxA hGZ hrZ (by omega) hqA (mx_Ca_le hcA)
  refine W.eq (g2 := F0 m 916 la ((([.int (xs (i + 1))] : List Value).map (mx_v (tB l D s.heap.size ad s.heap tau).2.1.1)).reverse ++ .ref (mx_rho (tB l D s.heap.size ad s.heap tau).2.1.1 1) :: [])) rfl ?_
  refine mx_Wcallv (B := (tB l D s.heap.size ad s.heap tau)) (ci := 11) (r := cr_11) (n := 1) A dl_916 me_113 rfl (hxZ.obj (lt83 (GI_n hGZ) rfl) (GI_s hGZ 1 rfl)) (tw lx_5_2 rfl) (tw lx_5_3 rfl) (tw lx_5_1 rfl) hcA rfl hl.1 (by exact Nat.le_of_ble_eq_true rfl) hRZ hLoZ (by decide) (by decide) ⟨by show nZ - 1 + (hA.1 - hZ.1) ≤ 600000; rw [zcA]; exact rcA, by show wZ + (hA.2.1 - hZ.2.1) ≤ 7302250; rw [zsA]; exact rsA⟩ (fun HA locsA hRA hLoA => ?_)
  refine W.cs zcA zsA ?_
  have qA : 0 ≤ ZA 1 1 ∧ ZA 1 1 ≤ 900 := hGA.pr 1 1
  have hS1 := lw_S hRA hLoA
  clear hS
  have hS := hS1
  refine W.eq (g2 := F0 m 919 la (xI zA :: [])) rfl ?_
  refine lv_pop hx0 hb dl_919 rfl ?_
  refine lv_aload_n hx0 hb dl_920 rfl (lv_at hl 2 rfl) ?_
  refine lw_arg C0 hS hl (j := 1) (x := 1) (by omega) hL (by decide) (by decide +kernel) dl_921 dl_922 dl_923 dl_924 dl_925 ?_
  obtain ⟨zB, nB, wB, SB, ZB, hB, hcB, hxB, hGB, hqB⟩ := sf_249 (l := l) (D := D) (b0 := s.heap.size) (ad := ad) (Hb := s.heap) (tau := tau) (x0 := (xs (i + 1)).toInt) hxA hGA (iI_x (xs (i + 1))) (by omega)
  rw [eI (xs (i + 1))] at hcB
  obtain ⟨⟨zcB, zsB⟩, ⟨rcB, rsB⟩, hrB⟩ := lw_room hxA hxB hGA hrA (by omega) hqB (mx_Ca_le hcB)
  refine W.eq (g2 := F0 m 926 la ((([.int (xs (i + 1))] : List Value).map (mx_v (tB l D s.heap.size ad s.heap tau).2.1.1)).reverse ++ .ref (mx_rho (tB l D s.heap.size ad s.heap tau).2.1.1 56) :: [])) rfl ?_
  refine mx_Wcallv (B := (tB l D s.heap.size ad s.heap tau)) (ci := 12) (r := cr_12) (n := 1) A dl_926 me_249 rfl (hxA.obj (lt83 (GI_n hGA) rfl) (GI_s hGA 56 rfl)) (tw lx_7_233 rfl) (tw lx_7_234 rfl) (tw lx_7_232 rfl) hcB rfl hl.1 (by exact Nat.le_of_ble_eq_true rfl) hRA hLoA (by decide) (by decide) ⟨by show nA - 1 + (hB.1 - hA.1) ≤ 600000; rw [zcB]; exact rcB, by show wA + (hB.2.1 - hA.2.1) ≤ 7302250; rw [zsB]; exact rsB⟩ (fun HB locsB hRB hLoB => ?_)
  refine W.cs zcB zsB ?_
  refine W.eq (g2 := F0 m 929 la (xI zB :: [])) rfl ?_
  refine lv_pop hx0 hb dl_929 rfl ?_
  refine lv_goto (tgt := 1513) hx0 hb dl_930 (by decide) ?_
  exact K HB locsB (nB - 1) wB ⟨nB, wB, SB, ZB, hB, hxB, hGB, hRB, hLoB, hl, ⟨by have := hrB.1; omega, hrB.2⟩, rfl, rfl⟩
set_option maxHeartbeats 4000000 in
set_option maxRecDepth 100000 in
theorem lc_25 (C0 : lw_At p s m meth c b L xs) (hL : L ≤ 3072) (A : mx_Wx (tB l D s.heap.size ad s.heap tau) p s m #[Value.ref b] c code 4 R_law) {i : Nat} (hi : i + 6 ≤ L) {ph : Int} (hph : ph ≤ 10489) (hI : lw_I (tB l D s.heap.size ad s.heap tau) s b i ph H locs la cells slots) (K : ∀ (H : Heap) (locs : List Loc) (cells slots : Nat), lw_I (tB l D s.heap.size ad s.heap tau) s b i (ph + 20) H locs la cells slots → W p l e room_1 s m #[Value.ref b] below meth c H locs cells slots Q (F0 m 1513 la [])) : W p l e room_1 s m #[Value.ref b] below meth c H locs cells slots Q (F0 m 933 la []) := by
  obtain ⟨hx0, hb, hr, hml, hown, hts, hX, hbl, hlocks, hgv⟩ := id C0
  obtain ⟨nZ, wZ, SZ, ZZ, hZ, hxZ, hGZ, hRZ, hLoZ, hl, hrZ, rfl, rfl⟩ := hI
  have qZ : 0 ≤ ZZ 1 1 ∧ ZZ 1 1 ≤ 900 := hGZ.pr 1 1
  have hS := lw_S hRZ hLoZ
  refine lv_aload_n hx0 hb dl_933 rfl (lv_at hl 1 rfl) ?_
  refine lw_arg C0 hS hl (j := 1) (x := 1) (by omega) hL (by decide) (by decide +kernel) dl_934 dl_935 dl_936 dl_937 dl_938 ?_
  refine lw_arg C0 hS hl (j := 2) (x := 2) (by omega) hL (by decide) (by decide +kernel) dl_939 dl_940 dl_941 dl_942 dl_943 ?_
  obtain ⟨zA, nA, wA, SA, ZA, hA, hcA, hxA, hGA, hqA⟩ := sf_114 (l := l) (D := D) (b0 := s.heap.size) (ad := ad) (Hb := s.heap) (tau := tau) (x0 := (xs (i + 1)).toInt) (x1 := (xs (i + 2)).toInt) hxZ hGZ (iI_x (xs (i + 1))) (iI_x (xs (i + 2))) (by omega)
  rw [eI (xs (i + 1)), eI (xs (i + 2))] at hcA
  obtain ⟨⟨zcA, zsA⟩, ⟨rcA, rsA⟩, hrA⟩ := lw_room hxZ hxA hGZ hrZ (by omega) hqA (mx_Ca_le hcA)
  refine W.eq (g2 := F0 m 944 la ((([.int (xs (i + 1)), .int (xs (i + 2))] : List Value).map (mx_v (tB l D s.heap.size ad s.heap tau).2.1.1)).reverse ++ .ref (mx_rho (tB l D s.heap.size ad s.heap tau).2.1.1 1) :: [])) rfl ?_
  refine mx_Wcallv (B := (tB l D s.heap.size ad s.heap tau)) (ci := 11) (r := cr_11) (n := 2) A dl_944 me_114 rfl (hxZ.obj (lt83 (GI_n hGZ) rfl) (GI_s hGZ 1 rfl)) (tw lx_5_6 rfl) (tw lx_5_7 rfl) (tw lx_5_5 rfl) hcA rfl hl.1 (by exact Nat.le_of_ble_eq_true rfl) hRZ hLoZ (by decide) (by decide) ⟨by show nZ - 1 + (hA.1 - hZ.1) ≤ 600000; rw [zcA]; exact rcA, by show wZ + (hA.2.1 - hZ.2.1) ≤ 7302250; rw [zsA]; exact rsA⟩ (fun HA locsA hRA hLoA => ?_)
  refine W.cs zcA zsA ?_
  have qA : 0 ≤ ZA 1 1 ∧ ZA 1 1 ≤ 900 := hGA.pr 1 1
  have hS1 := lw_S hRA hLoA
  clear hS
  have hS := hS1
  refine W.eq (g2 := F0 m 947 la (xI zA :: [])) rfl ?_
  refine lv_pop hx0 hb dl_947 rfl ?_
  refine lv_aload_n hx0 hb dl_948 rfl (lv_at hl 2 rfl) ?_
  refine lw_arg C0 hS hl (j := 1) (x := 1) (by omega) hL (by decide) (by decide +kernel) dl_949 dl_950 dl_951 dl_952 dl_953 ?_
  refine lw_arg C0 hS hl (j := 2) (x := 2) (by omega) hL (by decide) (by decide +kernel) dl_954 dl_955 dl_956 dl_957 dl_958 ?_
  obtain ⟨zB, nB, wB, SB, ZB, hB, hcB, hxB, hGB, hqB⟩ := sf_250 (l := l) (D := D) (b0 := s.heap.size) (ad := ad) (Hb := s.heap) (tau := tau) (x0 := (xs (i + 1)).toInt) (x1 := (xs (i + 2)).toInt) hxA hGA (iI_x (xs (i + 1))) (iI_x (xs (i + 2))) (by omega)
  rw [eI (xs (i + 1)), eI (xs (i + 2))] at hcB
  obtain ⟨⟨zcB, zsB⟩, ⟨rcB, rsB⟩, hrB⟩ := lw_room hxA hxB hGA hrA (by omega) hqB (mx_Ca_le hcB)
  refine W.eq (g2 := F0 m 959 la ((([.int (xs (i + 1)), .int (xs (i + 2))] : List Value).map (mx_v (tB l D s.heap.size ad s.heap tau).2.1.1)).reverse ++ .ref (mx_rho (tB l D s.heap.size ad s.heap tau).2.1.1 56) :: [])) rfl ?_
  refine mx_Wcallv (B := (tB l D s.heap.size ad s.heap tau)) (ci := 12) (r := cr_12) (n := 2) A dl_959 me_250 rfl (hxA.obj (lt83 (GI_n hGA) rfl) (GI_s hGA 56 rfl)) (tw lx_7_237 rfl) (tw lx_7_238 rfl) (tw lx_7_236 rfl) hcB rfl hl.1 (by exact Nat.le_of_ble_eq_true rfl) hRA hLoA (by decide) (by decide) ⟨by show nA - 1 + (hB.1 - hA.1) ≤ 600000; rw [zcB]; exact rcB, by show wA + (hB.2.1 - hA.2.1) ≤ 7302250; rw [zsB]; exact rsB⟩ (fun HB locsB hRB hLoB => ?_)
  refine W.cs zcB zsB ?_
  refine W.eq (g2 := F0 m 962 la (xI zB :: [])) rfl ?_
  refine lv_pop hx0 hb dl_962 rfl ?_
  refine lv_goto (tgt := 1513) hx0 hb dl_963 (by decide) ?_
  exact K HB locsB (nB - 1) wB ⟨nB, wB, SB, ZB, hB, hxB, hGB, hRB, hLoB, hl, ⟨by have := hrB.1; omega, hrB.2⟩, rfl, rfl⟩
set_option maxHeartbeats 4000000 in
set_option maxRecDepth 100000 in
theorem lc_26 (C0 : lw_At p s m meth c b L xs) (hL : L ≤ 3072) (A : mx_Wx (tB l D s.heap.size ad s.heap tau) p s m #[Value.ref b] c code 4 R_law) {i : Nat} (hi : i + 6 ≤ L) {ph : Int} (hph : ph ≤ 10489) (hI : lw_I (tB l D s.heap.size ad s.heap tau) s b i ph H locs la cells slots) (K : ∀ (H : Heap) (locs : List Loc) (cells slots : Nat), lw_I (tB l D s.heap.size ad s.heap tau) s b i (ph + 20) H locs la cells slots → W p l e room_1 s m #[Value.ref b] below meth c H locs cells slots Q (F0 m 1513 la [])) : W p l e room_1 s m #[Value.ref b] below meth c H locs cells slots Q (F0 m 966 la []) := by
  obtain ⟨hx0, hb, hr, hml, hown, hts, hX, hbl, hlocks, hgv⟩ := id C0
  obtain ⟨nZ, wZ, SZ, ZZ, hZ, hxZ, hGZ, hRZ, hLoZ, hl, hrZ, rfl, rfl⟩ := hI
  have qZ : 0 ≤ ZZ 1 1 ∧ ZZ 1 1 ≤ 900 := hGZ.pr 1 1
  have hS := lw_S hRZ hLoZ
  refine lv_aload_n hx0 hb dl_966 rfl (lv_at hl 1 rfl) ?_
  obtain ⟨zA, nA, wA, SA, ZA, hA, hcA, hxA, hGA, hqA⟩ := sf_115 (l := l) (D := D) (b0 := s.heap.size) (ad := ad) (Hb := s.heap) (tau := tau) hxZ hGZ (by omega)
  obtain ⟨⟨zcA, zsA⟩, ⟨rcA, rsA⟩, hrA⟩ := lw_room hxZ hxA hGZ hrZ (by omega) hqA (mx_Ca_le hcA)
  refine W.eq (g2 := F0 m 967 la ((([] : List Value).map (mx_v (tB l D s.heap.size ad s.heap tau).2.1.1)).reverse ++ .ref (mx_rho (tB l D s.heap.size ad s.heap tau).2.1.1 1) :: [])) rfl ?_
  refine mx_Wcallv (B := (tB l D s.heap.size ad s.heap tau)) (ci := 11) (r := cr_11) (n := 0) A dl_967 me_115 rfl (hxZ.obj (lt83 (GI_n hGZ) rfl) (GI_s hGZ 1 rfl)) (tw lx_5_10 rfl) (tw lx_5_11 rfl) (tw lx_5_9 rfl) hcA rfl hl.1 (by exact Nat.le_of_ble_eq_true rfl) hRZ hLoZ (by decide) (by decide) ⟨by show nZ - 1 + (hA.1 - hZ.1) ≤ 600000; rw [zcA]; exact rcA, by show wZ + (hA.2.1 - hZ.2.1) ≤ 7302250; rw [zsA]; exact rsA⟩ (fun HA locsA hRA hLoA => ?_)
  refine W.cs zcA zsA ?_
  have qA : 0 ≤ ZA 1 1 ∧ ZA 1 1 ≤ 900 := hGA.pr 1 1
  have hS1 := lw_S hRA hLoA
  clear hS
  have hS := hS1
  refine W.eq (g2 := F0 m 970 la (xI zA :: [])) rfl ?_
  refine lv_pop hx0 hb dl_970 rfl ?_
  refine lv_aload_n hx0 hb dl_971 rfl (lv_at hl 2 rfl) ?_
  obtain ⟨zB, nB, wB, SB, ZB, hB, hcB, hxB, hGB, hqB⟩ := sf_251 (l := l) (D := D) (b0 := s.heap.size) (ad := ad) (Hb := s.heap) (tau := tau) hxA hGA (by omega)
  obtain ⟨⟨zcB, zsB⟩, ⟨rcB, rsB⟩, hrB⟩ := lw_room hxA hxB hGA hrA (by omega) hqB (mx_Ca_le hcB)
  refine W.eq (g2 := F0 m 972 la ((([] : List Value).map (mx_v (tB l D s.heap.size ad s.heap tau).2.1.1)).reverse ++ .ref (mx_rho (tB l D s.heap.size ad s.heap tau).2.1.1 56) :: [])) rfl ?_
  refine mx_Wcallv (B := (tB l D s.heap.size ad s.heap tau)) (ci := 12) (r := cr_12) (n := 0) A dl_972 me_251 rfl (hxA.obj (lt83 (GI_n hGA) rfl) (GI_s hGA 56 rfl)) (tw lx_8_1 rfl) (tw lx_8_2 rfl) (tw lx_8_0 rfl) hcB rfl hl.1 (by exact Nat.le_of_ble_eq_true rfl) hRA hLoA (by decide) (by decide) ⟨by show nA - 1 + (hB.1 - hA.1) ≤ 600000; rw [zcB]; exact rcB, by show wA + (hB.2.1 - hA.2.1) ≤ 7302250; rw [zsB]; exact rsB⟩ (fun HB locsB hRB hLoB => ?_)
  refine W.cs zcB zsB ?_
  refine W.eq (g2 := F0 m 975 la (xI zB :: [])) rfl ?_
  refine lv_pop hx0 hb dl_975 rfl ?_
  refine lv_goto (tgt := 1513) hx0 hb dl_976 (by decide) ?_
  exact K HB locsB (nB - 1) wB ⟨nB, wB, SB, ZB, hB, hxB, hGB, hRB, hLoB, hl, ⟨by have := hrB.1; omega, hrB.2⟩, rfl, rfl⟩
set_option maxHeartbeats 4000000 in
set_option maxRecDepth 100000 in
theorem lc_27 (C0 : lw_At p s m meth c b L xs) (hL : L ≤ 3072) (A : mx_Wx (tB l D s.heap.size ad s.heap tau) p s m #[Value.ref b] c code 4 R_law) {i : Nat} (hi : i + 6 ≤ L) {ph : Int} (hph : ph ≤ 10489) (hI : lw_I (tB l D s.heap.size ad s.heap tau) s b i ph H locs la cells slots) (K : ∀ (H : Heap) (locs : List Loc) (cells slots : Nat), lw_I (tB l D s.heap.size ad s.heap tau) s b i (ph + 20) H locs la cells slots → W p l e room_1 s m #[Value.ref b] below meth c H locs cells slots Q (F0 m 1513 la [])) : W p l e room_1 s m #[Value.ref b] below meth c H locs cells slots Q (F0 m 979 la []) := by
  obtain ⟨hx0, hb, hr, hml, hown, hts, hX, hbl, hlocks, hgv⟩ := id C0
  obtain ⟨nZ, wZ, SZ, ZZ, hZ, hxZ, hGZ, hRZ, hLoZ, hl, hrZ, rfl, rfl⟩ := hI
  have qZ : 0 ≤ ZZ 1 1 ∧ ZZ 1 1 ≤ 900 := hGZ.pr 1 1
  have hS := lw_S hRZ hLoZ
  refine lv_aload_n hx0 hb dl_979 rfl (lv_at hl 1 rfl) ?_
  refine lw_arg C0 hS hl (j := 1) (x := 1) (by omega) hL (by decide) (by decide +kernel) dl_980 dl_981 dl_982 dl_983 dl_984 ?_
  obtain ⟨zA, nA, wA, SA, ZA, hA, hcA, hxA, hGA, hqA⟩ := sf_116 (l := l) (D := D) (b0 := s.heap.size) (ad := ad) (Hb := s.heap) (tau := tau) (x0 := (xs (i + 1)).toInt) hxZ hGZ (iI_x (xs (i + 1))) (by omega)
  rw [eI (xs (i + 1))] at hcA
  obtain ⟨⟨zcA, zsA⟩, ⟨rcA, rsA⟩, hrA⟩ := lw_room hxZ hxA hGZ hrZ (by omega) hqA (mx_Ca_le hcA)
  refine W.eq (g2 := F0 m 985 la ((([.int (xs (i + 1))] : List Value).map (mx_v (tB l D s.heap.size ad s.heap tau).2.1.1)).reverse ++ .ref (mx_rho (tB l D s.heap.size ad s.heap tau).2.1.1 1) :: [])) rfl ?_
  refine mx_Wcallv (B := (tB l D s.heap.size ad s.heap tau)) (ci := 11) (r := cr_11) (n := 1) A dl_985 me_116 rfl (hxZ.obj (lt83 (GI_n hGZ) rfl) (GI_s hGZ 1 rfl)) (tw lx_5_14 rfl) (tw lx_5_15 rfl) (tw lx_5_13 rfl) hcA rfl hl.1 (by exact Nat.le_of_ble_eq_true rfl) hRZ hLoZ (by decide) (by decide) ⟨by show nZ - 1 + (hA.1 - hZ.1) ≤ 600000; rw [zcA]; exact rcA, by show wZ + (hA.2.1 - hZ.2.1) ≤ 7302250; rw [zsA]; exact rsA⟩ (fun HA locsA hRA hLoA => ?_)
  refine W.cs zcA zsA ?_
  have qA : 0 ≤ ZA 1 1 ∧ ZA 1 1 ≤ 900 := hGA.pr 1 1
  have hS1 := lw_S hRA hLoA
  clear hS
  have hS := hS1
  refine W.eq (g2 := F0 m 988 la (xI zA :: [])) rfl ?_
  refine lv_pop hx0 hb dl_988 rfl ?_
  refine lv_aload_n hx0 hb dl_989 rfl (lv_at hl 2 rfl) ?_
  refine lw_arg C0 hS hl (j := 1) (x := 1) (by omega) hL (by decide) (by decide +kernel) dl_990 dl_991 dl_992 dl_993 dl_994 ?_
  obtain ⟨zB, nB, wB, SB, ZB, hB, hcB, hxB, hGB, hqB⟩ := sf_253 (l := l) (D := D) (b0 := s.heap.size) (ad := ad) (Hb := s.heap) (tau := tau) (x0 := (xs (i + 1)).toInt) hxA hGA (iI_x (xs (i + 1))) (by omega)
  rw [eI (xs (i + 1))] at hcB
  obtain ⟨⟨zcB, zsB⟩, ⟨rcB, rsB⟩, hrB⟩ := lw_room hxA hxB hGA hrA (by omega) hqB (mx_Ca_le hcB)
  refine W.eq (g2 := F0 m 995 la ((([.int (xs (i + 1))] : List Value).map (mx_v (tB l D s.heap.size ad s.heap tau).2.1.1)).reverse ++ .ref (mx_rho (tB l D s.heap.size ad s.heap tau).2.1.1 56) :: [])) rfl ?_
  refine mx_Wcallv (B := (tB l D s.heap.size ad s.heap tau)) (ci := 12) (r := cr_12) (n := 1) A dl_995 me_253 rfl (hxA.obj (lt83 (GI_n hGA) rfl) (GI_s hGA 56 rfl)) (tw lx_8_5 rfl) (tw lx_8_6 rfl) (tw lx_8_4 rfl) hcB rfl hl.1 (by exact Nat.le_of_ble_eq_true rfl) hRA hLoA (by decide) (by decide) ⟨by show nA - 1 + (hB.1 - hA.1) ≤ 600000; rw [zcB]; exact rcB, by show wA + (hB.2.1 - hA.2.1) ≤ 7302250; rw [zsB]; exact rsB⟩ (fun HB locsB hRB hLoB => ?_)
  refine W.cs zcB zsB ?_
  refine W.eq (g2 := F0 m 998 la (xI zB :: [])) rfl ?_
  refine lv_pop hx0 hb dl_998 rfl ?_
  refine lv_goto (tgt := 1513) hx0 hb dl_999 (by decide) ?_
  exact K HB locsB (nB - 1) wB ⟨nB, wB, SB, ZB, hB, hxB, hGB, hRB, hLoB, hl, ⟨by have := hrB.1; omega, hrB.2⟩, rfl, rfl⟩
set_option maxHeartbeats 4000000 in
set_option maxRecDepth 100000 in
theorem lc_28 (C0 : lw_At p s m meth c b L xs) (hL : L ≤ 3072) (A : mx_Wx (tB l D s.heap.size ad s.heap tau) p s m #[Value.ref b] c code 4 R_law) {i : Nat} (hi : i + 6 ≤ L) {ph : Int} (hph : ph ≤ 10489) (hI : lw_I (tB l D s.heap.size ad s.heap tau) s b i ph H locs la cells slots) (K : ∀ (H : Heap) (locs : List Loc) (cells slots : Nat), lw_I (tB l D s.heap.size ad s.heap tau) s b i (ph + 20) H locs la cells slots → W p l e room_1 s m #[Value.ref b] below meth c H locs cells slots Q (F0 m 1513 la [])) : W p l e room_1 s m #[Value.ref b] below meth c H locs cells slots Q (F0 m 1002 la []) := by
  obtain ⟨hx0, hb, hr, hml, hown, hts, hX, hbl, hlocks, hgv⟩ := id C0
  obtain ⟨nZ, wZ, SZ, ZZ, hZ, hxZ, hGZ, hRZ, hLoZ, hl, hrZ, rfl, rfl⟩ := hI
  have qZ : 0 ≤ ZZ 1 1 ∧ ZZ 1 1 ≤ 900 := hGZ.pr 1 1
  have hS := lw_S hRZ hLoZ
  refine lv_aload_n hx0 hb dl_1002 rfl (lv_at hl 1 rfl) ?_
  obtain ⟨zA, nA, wA, SA, ZA, hA, hcA, hxA, hGA, hqA⟩ := sf_117 (l := l) (D := D) (b0 := s.heap.size) (ad := ad) (Hb := s.heap) (tau := tau) hxZ hGZ (by omega)
  obtain ⟨⟨zcA, zsA⟩, ⟨rcA, rsA⟩, hrA⟩ := lw_room hxZ hxA hGZ hrZ (by omega) hqA (mx_Ca_le hcA)
  refine W.eq (g2 := F0 m 1003 la ((([] : List Value).map (mx_v (tB l D s.heap.size ad s.heap tau).2.1.1)).reverse ++ .ref (mx_rho (tB l D s.heap.size ad s.heap tau).2.1.1 1) :: [])) rfl ?_
  refine mx_Wcallv (B := (tB l D s.heap.size ad s.heap tau)) (ci := 11) (r := cr_11) (n := 0) A dl_1003 me_117 rfl (hxZ.obj (lt83 (GI_n hGZ) rfl) (GI_s hGZ 1 rfl)) (tw lx_5_23 rfl) (tw lx_5_24 rfl) (tw lx_5_22 rfl) hcA rfl hl.1 (by exact Nat.le_of_ble_eq_true rfl) hRZ hLoZ (by decide) (by decide) ⟨by show nZ - 1 + (hA.1 - hZ.1) ≤ 600000; rw [zcA]; exact rcA, by show wZ + (hA.2.1 - hZ.2.1) ≤ 7302250; rw [zsA]; exact rsA⟩ (fun HA locsA hRA hLoA => ?_)
  refine W.cs zcA zsA ?_
  have qA : 0 ≤ ZA 1 1 ∧ ZA 1 1 ≤ 900 := hGA.pr 1 1
  have hS1 := lw_S hRA hLoA
  clear hS
  have hS := hS1
  refine W.eq (g2 := F0 m 1006 la (xI zA :: [])) rfl ?_
  refine lv_pop hx0 hb dl_1006 rfl ?_
  refine lv_aload_n hx0 hb dl_1007 rfl (lv_at hl 2 rfl) ?_
  obtain ⟨zB, nB, wB, SB, ZB, hB, hcB, hxB, hGB, hqB⟩ := sf_254 (l := l) (D := D) (b0 := s.heap.size) (ad := ad) (Hb := s.heap) (tau := tau) hxA hGA (by omega)
  obtain ⟨⟨zcB, zsB⟩, ⟨rcB, rsB⟩, hrB⟩ := lw_room hxA hxB hGA hrA (by omega) hqB (mx_Ca_le hcB)
  refine W.eq (g2 := F0 m 1008 la ((([] : List Value).map (mx_v (tB l D s.heap.size ad s.heap tau).2.1.1)).reverse ++ .ref (mx_rho (tB l D s.heap.size ad s.heap tau).2.1.1 56) :: [])) rfl ?_
  refine mx_Wcallv (B := (tB l D s.heap.size ad s.heap tau)) (ci := 12) (r := cr_12) (n := 0) A dl_1008 me_254 rfl (hxA.obj (lt83 (GI_n hGA) rfl) (GI_s hGA 56 rfl)) (tw lx_8_13 rfl) (tw lx_8_14 rfl) (tw lx_8_12 rfl) hcB rfl hl.1 (by exact Nat.le_of_ble_eq_true rfl) hRA hLoA (by decide) (by decide) ⟨by show nA - 1 + (hB.1 - hA.1) ≤ 600000; rw [zcB]; exact rcB, by show wA + (hB.2.1 - hA.2.1) ≤ 7302250; rw [zsB]; exact rsB⟩ (fun HB locsB hRB hLoB => ?_)
  refine W.cs zcB zsB ?_
  refine W.eq (g2 := F0 m 1011 la (xI zB :: [])) rfl ?_
  refine lv_pop hx0 hb dl_1011 rfl ?_
  refine lv_goto (tgt := 1513) hx0 hb dl_1012 (by decide) ?_
  exact K HB locsB (nB - 1) wB ⟨nB, wB, SB, ZB, hB, hxB, hGB, hRB, hLoB, hl, ⟨by have := hrB.1; omega, hrB.2⟩, rfl, rfl⟩
set_option maxHeartbeats 4000000 in
set_option maxRecDepth 100000 in
theorem lc_29 (C0 : lw_At p s m meth c b L xs) (hL : L ≤ 3072) (A : mx_Wx (tB l D s.heap.size ad s.heap tau) p s m #[Value.ref b] c code 4 R_law) {i : Nat} (hi : i + 6 ≤ L) {ph : Int} (hph : ph ≤ 10489) (hI : lw_I (tB l D s.heap.size ad s.heap tau) s b i ph H locs la cells slots) (K : ∀ (H : Heap) (locs : List Loc) (cells slots : Nat), lw_I (tB l D s.heap.size ad s.heap tau) s b i (ph + 20) H locs la cells slots → W p l e room_1 s m #[Value.ref b] below meth c H locs cells slots Q (F0 m 1513 la [])) : W p l e room_1 s m #[Value.ref b] below meth c H locs cells slots Q (F0 m 1015 la []) := by
  obtain ⟨hx0, hb, hr, hml, hown, hts, hX, hbl, hlocks, hgv⟩ := id C0
  obtain ⟨nZ, wZ, SZ, ZZ, hZ, hxZ, hGZ, hRZ, hLoZ, hl, hrZ, rfl, rfl⟩ := hI
  have qZ : 0 ≤ ZZ 1 1 ∧ ZZ 1 1 ≤ 900 := hGZ.pr 1 1
  have hS := lw_S hRZ hLoZ
  refine lv_aload_n hx0 hb dl_1015 rfl (lv_at hl 1 rfl) ?_
  refine lw_arg C0 hS hl (j := 1) (x := 1) (by omega) hL (by decide) (by decide +kernel) dl_1016 dl_1017 dl_1018 dl_1019 dl_1020 ?_
  obtain ⟨zA, nA, wA, SA, ZA, hA, hcA, hxA, hGA, hqA⟩ := sf_118 (l := l) (D := D) (b0 := s.heap.size) (ad := ad) (Hb := s.heap) (tau := tau) (x0 := (xs (i + 1)).toInt) hxZ hGZ (iI_x (xs (i + 1))) (by omega)
  rw [eI (xs (i + 1))] at hcA
  obtain ⟨⟨zcA, zsA⟩, ⟨rcA, rsA⟩, hrA⟩ := lw_room hxZ hxA hGZ hrZ (by omega) hqA (mx_Ca_le hcA)
  refine W.eq (g2 := F0 m 1021 la ((([.int (xs (i + 1))] : List Value).map (mx_v (tB l D s.heap.size ad s.heap tau).2.1.1)).reverse ++ .ref (mx_rho (tB l D s.heap.size ad s.heap tau).2.1.1 1) :: [])) rfl ?_
  refine mx_Wcallv (B := (tB l D s.heap.size ad s.heap tau)) (ci := 11) (r := cr_11) (n := 1) A dl_1021 me_118 rfl (hxZ.obj (lt83 (GI_n hGZ) rfl) (GI_s hGZ 1 rfl)) (tw lx_5_27 rfl) (tw lx_5_28 rfl) (tw lx_5_26 rfl) hcA rfl hl.1 (by exact Nat.le_of_ble_eq_true rfl) hRZ hLoZ (by decide) (by decide) ⟨by show nZ - 1 + (hA.1 - hZ.1) ≤ 600000; rw [zcA]; exact rcA, by show wZ + (hA.2.1 - hZ.2.1) ≤ 7302250; rw [zsA]; exact rsA⟩ (fun HA locsA hRA hLoA => ?_)
  refine W.cs zcA zsA ?_
  have qA : 0 ≤ ZA 1 1 ∧ ZA 1 1 ≤ 900 := hGA.pr 1 1
  have hS1 := lw_S hRA hLoA
  clear hS
  have hS := hS1
  refine W.eq (g2 := F0 m 1024 la (xL zA :: [])) rfl ?_
  refine lv_pop2_2 hx0 hb dl_1024 rfl ?_
  refine lv_aload_n hx0 hb dl_1025 rfl (lv_at hl 2 rfl) ?_
  refine lw_arg C0 hS hl (j := 1) (x := 1) (by omega) hL (by decide) (by decide +kernel) dl_1026 dl_1027 dl_1028 dl_1029 dl_1030 ?_
  obtain ⟨zB, nB, wB, SB, ZB, hB, hcB, hxB, hGB, hqB⟩ := sf_258 (l := l) (D := D) (b0 := s.heap.size) (ad := ad) (Hb := s.heap) (tau := tau) (x0 := (xs (i + 1)).toInt) hxA hGA (iI_x (xs (i + 1))) (by omega)
  rw [eI (xs (i + 1))] at hcB
  obtain ⟨⟨zcB, zsB⟩, ⟨rcB, rsB⟩, hrB⟩ := lw_room hxA hxB hGA hrA (by omega) hqB (mx_Ca_le hcB)
  refine W.eq (g2 := F0 m 1031 la ((([.int (xs (i + 1))] : List Value).map (mx_v (tB l D s.heap.size ad s.heap tau).2.1.1)).reverse ++ .ref (mx_rho (tB l D s.heap.size ad s.heap tau).2.1.1 56) :: [])) rfl ?_
  refine mx_Wcallv (B := (tB l D s.heap.size ad s.heap tau)) (ci := 12) (r := cr_12) (n := 1) A dl_1031 me_258 rfl (hxA.obj (lt83 (GI_n hGA) rfl) (GI_s hGA 56 rfl)) (tw lx_8_17 rfl) (tw lx_8_18 rfl) (tw lx_8_16 rfl) hcB rfl hl.1 (by exact Nat.le_of_ble_eq_true rfl) hRA hLoA (by decide) (by decide) ⟨by show nA - 1 + (hB.1 - hA.1) ≤ 600000; rw [zcB]; exact rcB, by show wA + (hB.2.1 - hA.2.1) ≤ 7302250; rw [zsB]; exact rsB⟩ (fun HB locsB hRB hLoB => ?_)
  refine W.cs zcB zsB ?_
  refine W.eq (g2 := F0 m 1034 la (xL zB :: [])) rfl ?_
  refine lv_pop2_2 hx0 hb dl_1034 rfl ?_
  refine lv_goto (tgt := 1513) hx0 hb dl_1035 (by decide) ?_
  exact K HB locsB (nB - 1) wB ⟨nB, wB, SB, ZB, hB, hxB, hGB, hRB, hLoB, hl, ⟨by have := hrB.1; omega, hrB.2⟩, rfl, rfl⟩
set_option maxHeartbeats 4000000 in
set_option maxRecDepth 100000 in
theorem lc_30 (C0 : lw_At p s m meth c b L xs) (hL : L ≤ 3072) (A : mx_Wx (tB l D s.heap.size ad s.heap tau) p s m #[Value.ref b] c code 4 R_law) {i : Nat} (hi : i + 6 ≤ L) {ph : Int} (hph : ph ≤ 10489) (hI : lw_I (tB l D s.heap.size ad s.heap tau) s b i ph H locs la cells slots) (K : ∀ (H : Heap) (locs : List Loc) (cells slots : Nat), lw_I (tB l D s.heap.size ad s.heap tau) s b i (ph + 20) H locs la cells slots → W p l e room_1 s m #[Value.ref b] below meth c H locs cells slots Q (F0 m 1513 la [])) : W p l e room_1 s m #[Value.ref b] below meth c H locs cells slots Q (F0 m 1038 la []) := by
  obtain ⟨hx0, hb, hr, hml, hown, hts, hX, hbl, hlocks, hgv⟩ := id C0
  obtain ⟨nZ, wZ, SZ, ZZ, hZ, hxZ, hGZ, hRZ, hLoZ, hl, hrZ, rfl, rfl⟩ := hI
  have qZ : 0 ≤ ZZ 1 1 ∧ ZZ 1 1 ≤ 900 := hGZ.pr 1 1
  have hS := lw_S hRZ hLoZ
  refine lv_aload_n hx0 hb dl_1038 rfl (lv_at hl 1 rfl) ?_
  refine lw_arg C0 hS hl (j := 1) (x := 1) (by omega) hL (by decide) (by decide +kernel) dl_1039 dl_1040 dl_1041 dl_1042 dl_1043 ?_
  refine lw_arg C0 hS hl (j := 2) (x := 2) (by omega) hL (by decide) (by decide +kernel) dl_1044 dl_1045 dl_1046 dl_1047 dl_1048 ?_
  obtain ⟨zA, nA, wA, SA, ZA, hA, hcA, hxA, hGA, hqA⟩ := sf_119 (l := l) (D := D) (b0 := s.heap.size) (ad := ad) (Hb := s.heap) (tau := tau) (x0 := (xs (i + 1)).toInt) (x1 := (xs (i + 2)).toInt) hxZ hGZ (iI_x (xs (i + 1))) (iI_x (xs (i + 2))) (by omega)
  rw [eI (xs (i + 1)), eI (xs (i + 2))] at hcA
  obtain ⟨⟨zcA, zsA⟩, ⟨rcA, rsA⟩, hrA⟩ := lw_room hxZ hxA hGZ hrZ (by omega) hqA (mx_Ca_le hcA)
  refine W.eq (g2 := F0 m 1049 la ((([.int (xs (i + 1)), .int (xs (i + 2))] : List Value).map (mx_v (tB l D s.heap.size ad s.heap tau).2.1.1)).reverse ++ .ref (mx_rho (tB l D s.heap.size ad s.heap tau).2.1.1 1) :: [])) rfl ?_
  refine mx_Wcallv (B := (tB l D s.heap.size ad s.heap tau)) (ci := 11) (r := cr_11) (n := 2) A dl_1049 me_119 rfl (hxZ.obj (lt83 (GI_n hGZ) rfl) (GI_s hGZ 1 rfl)) (tw lx_5_43 rfl) (tw lx_5_44 rfl) (tw lx_5_42 rfl) hcA rfl hl.1 (by exact Nat.le_of_ble_eq_true rfl) hRZ hLoZ (by decide) (by decide) ⟨by show nZ - 1 + (hA.1 - hZ.1) ≤ 600000; rw [zcA]; exact rcA, by show wZ + (hA.2.1 - hZ.2.1) ≤ 7302250; rw [zsA]; exact rsA⟩ (fun HA locsA hRA hLoA => ?_)
  refine W.cs zcA zsA ?_
  have qA : 0 ≤ ZA 1 1 ∧ ZA 1 1 ≤ 900 := hGA.pr 1 1
  have hS1 := lw_S hRA hLoA
  clear hS
  have hS := hS1
  refine W.eq (g2 := F0 m 1052 la (xI zA :: [])) rfl ?_
  refine lv_pop hx0 hb dl_1052 rfl ?_
  refine lv_aload_n hx0 hb dl_1053 rfl (lv_at hl 2 rfl) ?_
  refine lw_arg C0 hS hl (j := 1) (x := 1) (by omega) hL (by decide) (by decide +kernel) dl_1054 dl_1055 dl_1056 dl_1057 dl_1058 ?_
  refine lw_arg C0 hS hl (j := 2) (x := 2) (by omega) hL (by decide) (by decide +kernel) dl_1059 dl_1060 dl_1061 dl_1062 dl_1063 ?_
  obtain ⟨zB, nB, wB, SB, ZB, hB, hcB, hxB, hGB, hqB⟩ := sf_259 (l := l) (D := D) (b0 := s.heap.size) (ad := ad) (Hb := s.heap) (tau := tau) (x0 := (xs (i + 1)).toInt) (x1 := (xs (i + 2)).toInt) hxA hGA (iI_x (xs (i + 1))) (iI_x (xs (i + 2))) (by omega)
  rw [eI (xs (i + 1)), eI (xs (i + 2))] at hcB
  obtain ⟨⟨zcB, zsB⟩, ⟨rcB, rsB⟩, hrB⟩ := lw_room hxA hxB hGA hrA (by omega) hqB (mx_Ca_le hcB)
  refine W.eq (g2 := F0 m 1064 la ((([.int (xs (i + 1)), .int (xs (i + 2))] : List Value).map (mx_v (tB l D s.heap.size ad s.heap tau).2.1.1)).reverse ++ .ref (mx_rho (tB l D s.heap.size ad s.heap tau).2.1.1 56) :: [])) rfl ?_
  refine mx_Wcallv (B := (tB l D s.heap.size ad s.heap tau)) (ci := 12) (r := cr_12) (n := 2) A dl_1064 me_259 rfl (hxA.obj (lt83 (GI_n hGA) rfl) (GI_s hGA 56 rfl)) (tw lx_8_35 rfl) (tw lx_8_36 rfl) (tw lx_8_34 rfl) hcB rfl hl.1 (by exact Nat.le_of_ble_eq_true rfl) hRA hLoA (by decide) (by decide) ⟨by show nA - 1 + (hB.1 - hA.1) ≤ 600000; rw [zcB]; exact rcB, by show wA + (hB.2.1 - hA.2.1) ≤ 7302250; rw [zsB]; exact rsB⟩ (fun HB locsB hRB hLoB => ?_)
  refine W.cs zcB zsB ?_
  refine W.eq (g2 := F0 m 1067 la (xI zB :: [])) rfl ?_
  refine lv_pop hx0 hb dl_1067 rfl ?_
  refine lv_goto (tgt := 1513) hx0 hb dl_1068 (by decide) ?_
  exact K HB locsB (nB - 1) wB ⟨nB, wB, SB, ZB, hB, hxB, hGB, hRB, hLoB, hl, ⟨by have := hrB.1; omega, hrB.2⟩, rfl, rfl⟩
set_option maxHeartbeats 4000000 in
set_option maxRecDepth 100000 in
theorem lc_31 (C0 : lw_At p s m meth c b L xs) (hL : L ≤ 3072) (A : mx_Wx (tB l D s.heap.size ad s.heap tau) p s m #[Value.ref b] c code 4 R_law) {i : Nat} (hi : i + 6 ≤ L) {ph : Int} (hph : ph ≤ 10489) (hI : lw_I (tB l D s.heap.size ad s.heap tau) s b i ph H locs la cells slots) (K : ∀ (H : Heap) (locs : List Loc) (cells slots : Nat), lw_I (tB l D s.heap.size ad s.heap tau) s b i (ph + 20) H locs la cells slots → W p l e room_1 s m #[Value.ref b] below meth c H locs cells slots Q (F0 m 1513 la [])) : W p l e room_1 s m #[Value.ref b] below meth c H locs cells slots Q (F0 m 1071 la []) := by
  obtain ⟨hx0, hb, hr, hml, hown, hts, hX, hbl, hlocks, hgv⟩ := id C0
  obtain ⟨nZ, wZ, SZ, ZZ, hZ, hxZ, hGZ, hRZ, hLoZ, hl, hrZ, rfl, rfl⟩ := hI
  have qZ : 0 ≤ ZZ 1 1 ∧ ZZ 1 1 ≤ 900 := hGZ.pr 1 1
  have hS := lw_S hRZ hLoZ
  refine lv_aload_n hx0 hb dl_1071 rfl (lv_at hl 1 rfl) ?_
  refine lw_arg C0 hS hl (j := 1) (x := 1) (by omega) hL (by decide) (by decide +kernel) dl_1072 dl_1073 dl_1074 dl_1075 dl_1076 ?_
  refine lw_arg C0 hS hl (j := 2) (x := 2) (by omega) hL (by decide) (by decide +kernel) dl_1077 dl_1078 dl_1079 dl_1080 dl_1081 ?_
  obtain ⟨zA, nA, wA, SA, ZA, hA, hcA, hxA, hGA, hqA⟩ := sf_120 (l := l) (D := D) (b0 := s.heap.size) (ad := ad) (Hb := s.heap) (tau := tau) (x0 := (xs (i + 1)).toInt) (x1 := (xs (i + 2)).toInt) hxZ hGZ (iI_x (xs (i + 1))) (iI_x (xs (i + 2))) (by omega)
  rw [eI (xs (i + 1)), eI (xs (i + 2))] at hcA
  obtain ⟨⟨zcA, zsA⟩, ⟨rcA, rsA⟩, hrA⟩ := lw_room hxZ hxA hGZ hrZ (by omega) hqA (mx_Ca_le hcA)
  refine W.eq (g2 := F0 m 1082 la ((([.int (xs (i + 1)), .int (xs (i + 2))] : List Value).map (mx_v (tB l D s.heap.size ad s.heap tau).2.1.1)).reverse ++ .ref (mx_rho (tB l D s.heap.size ad s.heap tau).2.1.1 1) :: [])) rfl ?_
  refine mx_Wcallv (B := (tB l D s.heap.size ad s.heap tau)) (ci := 11) (r := cr_11) (n := 2) A dl_1082 me_120 rfl (hxZ.obj (lt83 (GI_n hGZ) rfl) (GI_s hGZ 1 rfl)) (tw lx_5_64 rfl) (tw lx_5_65 rfl) (tw lx_5_63 rfl) hcA rfl hl.1 (by exact Nat.le_of_ble_eq_true rfl) hRZ hLoZ (by decide) (by decide) ⟨by show nZ - 1 + (hA.1 - hZ.1) ≤ 600000; rw [zcA]; exact rcA, by show wZ + (hA.2.1 - hZ.2.1) ≤ 7302250; rw [zsA]; exact rsA⟩ (fun HA locsA hRA hLoA => ?_)
  refine W.cs zcA zsA ?_
  have qA : 0 ≤ ZA 1 1 ∧ ZA 1 1 ≤ 900 := hGA.pr 1 1
  have hS1 := lw_S hRA hLoA
  clear hS
  have hS := hS1
  refine W.eq (g2 := F0 m 1085 la (xI zA :: [])) rfl ?_
  refine lv_pop hx0 hb dl_1085 rfl ?_
  refine lv_aload_n hx0 hb dl_1086 rfl (lv_at hl 2 rfl) ?_
  refine lw_arg C0 hS hl (j := 1) (x := 1) (by omega) hL (by decide) (by decide +kernel) dl_1087 dl_1088 dl_1089 dl_1090 dl_1091 ?_
  refine lw_arg C0 hS hl (j := 2) (x := 2) (by omega) hL (by decide) (by decide +kernel) dl_1092 dl_1093 dl_1094 dl_1095 dl_1096 ?_
  obtain ⟨zB, nB, wB, SB, ZB, hB, hcB, hxB, hGB, hqB⟩ := sf_260 (l := l) (D := D) (b0 := s.heap.size) (ad := ad) (Hb := s.heap) (tau := tau) (x0 := (xs (i + 1)).toInt) (x1 := (xs (i + 2)).toInt) hxA hGA (iI_x (xs (i + 1))) (iI_x (xs (i + 2))) (by omega)
  rw [eI (xs (i + 1)), eI (xs (i + 2))] at hcB
  obtain ⟨⟨zcB, zsB⟩, ⟨rcB, rsB⟩, hrB⟩ := lw_room hxA hxB hGA hrA (by omega) hqB (mx_Ca_le hcB)
  refine W.eq (g2 := F0 m 1097 la ((([.int (xs (i + 1)), .int (xs (i + 2))] : List Value).map (mx_v (tB l D s.heap.size ad s.heap tau).2.1.1)).reverse ++ .ref (mx_rho (tB l D s.heap.size ad s.heap tau).2.1.1 56) :: [])) rfl ?_
  refine mx_Wcallv (B := (tB l D s.heap.size ad s.heap tau)) (ci := 12) (r := cr_12) (n := 2) A dl_1097 me_260 rfl (hxA.obj (lt83 (GI_n hGA) rfl) (GI_s hGA 56 rfl)) (tw lx_8_39 rfl) (tw lx_8_40 rfl) (tw lx_8_38 rfl) hcB rfl hl.1 (by exact Nat.le_of_ble_eq_true rfl) hRA hLoA (by decide) (by decide) ⟨by show nA - 1 + (hB.1 - hA.1) ≤ 600000; rw [zcB]; exact rcB, by show wA + (hB.2.1 - hA.2.1) ≤ 7302250; rw [zsB]; exact rsB⟩ (fun HB locsB hRB hLoB => ?_)
  refine W.cs zcB zsB ?_
  refine W.eq (g2 := F0 m 1100 la (xI zB :: [])) rfl ?_
  refine lv_pop hx0 hb dl_1100 rfl ?_
  refine lv_goto (tgt := 1513) hx0 hb dl_1101 (by decide) ?_
  exact K HB locsB (nB - 1) wB ⟨nB, wB, SB, ZB, hB, hxB, hGB, hRB, hLoB, hl, ⟨by have := hrB.1; omega, hrB.2⟩, rfl, rfl⟩
set_option maxHeartbeats 4000000 in
set_option maxRecDepth 100000 in
theorem lc_32 (C0 : lw_At p s m meth c b L xs) (hL : L ≤ 3072) (A : mx_Wx (tB l D s.heap.size ad s.heap tau) p s m #[Value.ref b] c code 4 R_law) {i : Nat} (hi : i + 6 ≤ L) {ph : Int} (hph : ph ≤ 10489) (hI : lw_I (tB l D s.heap.size ad s.heap tau) s b i ph H locs la cells slots) (K : ∀ (H : Heap) (locs : List Loc) (cells slots : Nat), lw_I (tB l D s.heap.size ad s.heap tau) s b i (ph + 20) H locs la cells slots → W p l e room_1 s m #[Value.ref b] below meth c H locs cells slots Q (F0 m 1513 la [])) : W p l e room_1 s m #[Value.ref b] below meth c H locs cells slots Q (F0 m 1104 la []) := by
  obtain ⟨hx0, hb, hr, hml, hown, hts, hX, hbl, hlocks, hgv⟩ := id C0
  obtain ⟨nZ, wZ, SZ, ZZ, hZ, hxZ, hGZ, hRZ, hLoZ, hl, hrZ, rfl, rfl⟩ := hI
  have qZ : 0 ≤ ZZ 1 1 ∧ ZZ 1 1 ≤ 900 := hGZ.pr 1 1
  have hS := lw_S hRZ hLoZ
  refine lv_aload_n hx0 hb dl_1104 rfl (lv_at hl 1 rfl) ?_
  refine lw_arg C0 hS hl (j := 1) (x := 1) (by omega) hL (by decide) (by decide +kernel) dl_1105 dl_1106 dl_1107 dl_1108 dl_1109 ?_
  obtain ⟨zA, nA, wA, SA, ZA, hA, hcA, hxA, hGA, hqA⟩ := sf_121 (l := l) (D := D) (b0 := s.heap.size) (ad := ad) (Hb := s.heap) (tau := tau) (x0 := (xs (i + 1)).toInt) hxZ hGZ (iI_x (xs (i + 1))) (by omega)
  rw [eI (xs (i + 1))] at hcA
  obtain ⟨⟨zcA, zsA⟩, ⟨rcA, rsA⟩, hrA⟩ := lw_room hxZ hxA hGZ hrZ (by omega) hqA (mx_Ca_le hcA)
  refine W.eq (g2 := F0 m 1110 la ((([.int (xs (i + 1))] : List Value).map (mx_v (tB l D s.heap.size ad s.heap tau).2.1.1)).reverse ++ .ref (mx_rho (tB l D s.heap.size ad s.heap tau).2.1.1 1) :: [])) rfl ?_
  refine mx_Wcallv (B := (tB l D s.heap.size ad s.heap tau)) (ci := 11) (r := cr_11) (n := 1) A dl_1110 me_121 rfl (hxZ.obj (lt83 (GI_n hGZ) rfl) (GI_s hGZ 1 rfl)) (tw lx_5_72 rfl) (tw lx_5_73 rfl) (tw lx_5_71 rfl) hcA rfl hl.1 (by exact Nat.le_of_ble_eq_true rfl) hRZ hLoZ (by decide) (by decide) ⟨by show nZ - 1 + (hA.1 - hZ.1) ≤ 600000; rw [zcA]; exact rcA, by show wZ + (hA.2.1 - hZ.2.1) ≤ 7302250; rw [zsA]; exact rsA⟩ (fun HA locsA hRA hLoA => ?_)
  refine W.cs zcA zsA ?_
  have qA : 0 ≤ ZA 1 1 ∧ ZA 1 1 ≤ 900 := hGA.pr 1 1
  have hS1 := lw_S hRA hLoA
  clear hS
  have hS := hS1
  refine W.eq (g2 := F0 m 1113 la (xI zA :: [])) rfl ?_
  refine lv_pop hx0 hb dl_1113 rfl ?_
  refine lv_aload_n hx0 hb dl_1114 rfl (lv_at hl 2 rfl) ?_
  refine lw_arg C0 hS hl (j := 1) (x := 1) (by omega) hL (by decide) (by decide +kernel) dl_1115 dl_1116 dl_1117 dl_1118 dl_1119 ?_
  obtain ⟨zB, nB, wB, SB, ZB, hB, hcB, hxB, hGB, hqB⟩ := sf_262 (l := l) (D := D) (b0 := s.heap.size) (ad := ad) (Hb := s.heap) (tau := tau) (x0 := (xs (i + 1)).toInt) hxA hGA (iI_x (xs (i + 1))) (by omega)
  rw [eI (xs (i + 1))] at hcB
  obtain ⟨⟨zcB, zsB⟩, ⟨rcB, rsB⟩, hrB⟩ := lw_room hxA hxB hGA hrA (by omega) hqB (mx_Ca_le hcB)
  refine W.eq (g2 := F0 m 1120 la ((([.int (xs (i + 1))] : List Value).map (mx_v (tB l D s.heap.size ad s.heap tau).2.1.1)).reverse ++ .ref (mx_rho (tB l D s.heap.size ad s.heap tau).2.1.1 56) :: [])) rfl ?_
  refine mx_Wcallv (B := (tB l D s.heap.size ad s.heap tau)) (ci := 12) (r := cr_12) (n := 1) A dl_1120 me_262 rfl (hxA.obj (lt83 (GI_n hGA) rfl) (GI_s hGA 56 rfl)) (tw lx_8_43 rfl) (tw lx_8_44 rfl) (tw lx_8_42 rfl) hcB rfl hl.1 (by exact Nat.le_of_ble_eq_true rfl) hRA hLoA (by decide) (by decide) ⟨by show nA - 1 + (hB.1 - hA.1) ≤ 600000; rw [zcB]; exact rcB, by show wA + (hB.2.1 - hA.2.1) ≤ 7302250; rw [zsB]; exact rsB⟩ (fun HB locsB hRB hLoB => ?_)
  refine W.cs zcB zsB ?_
  refine W.eq (g2 := F0 m 1123 la (xI zB :: [])) rfl ?_
  refine lv_pop hx0 hb dl_1123 rfl ?_
  refine lv_goto (tgt := 1513) hx0 hb dl_1124 (by decide) ?_
  exact K HB locsB (nB - 1) wB ⟨nB, wB, SB, ZB, hB, hxB, hGB, hRB, hLoB, hl, ⟨by have := hrB.1; omega, hrB.2⟩, rfl, rfl⟩
set_option maxHeartbeats 4000000 in
set_option maxRecDepth 100000 in
theorem lc_33 (C0 : lw_At p s m meth c b L xs) (hL : L ≤ 3072) (A : mx_Wx (tB l D s.heap.size ad s.heap tau) p s m #[Value.ref b] c code 4 R_law) {i : Nat} (hi : i + 6 ≤ L) {ph : Int} (hph : ph ≤ 10489) (hI : lw_I (tB l D s.heap.size ad s.heap tau) s b i ph H locs la cells slots) (K : ∀ (H : Heap) (locs : List Loc) (cells slots : Nat), lw_I (tB l D s.heap.size ad s.heap tau) s b i (ph + 20) H locs la cells slots → W p l e room_1 s m #[Value.ref b] below meth c H locs cells slots Q (F0 m 1513 la [])) : W p l e room_1 s m #[Value.ref b] below meth c H locs cells slots Q (F0 m 1127 la []) := by
  obtain ⟨hx0, hb, hr, hml, hown, hts, hX, hbl, hlocks, hgv⟩ := id C0
  obtain ⟨nZ, wZ, SZ, ZZ, hZ, hxZ, hGZ, hRZ, hLoZ, hl, hrZ, rfl, rfl⟩ := hI
  have qZ : 0 ≤ ZZ 1 1 ∧ ZZ 1 1 ≤ 900 := hGZ.pr 1 1
  have hS := lw_S hRZ hLoZ
  refine lv_aload_n hx0 hb dl_1127 rfl (lv_at hl 1 rfl) ?_
  refine lw_arg C0 hS hl (j := 1) (x := 1) (by omega) hL (by decide) (by decide +kernel) dl_1128 dl_1129 dl_1130 dl_1131 dl_1132 ?_
  obtain ⟨zA, nA, wA, SA, ZA, hA, hcA, hxA, hGA, hqA⟩ := sf_122 (l := l) (D := D) (b0 := s.heap.size) (ad := ad) (Hb := s.heap) (tau := tau) (x0 := (xs (i + 1)).toInt) hxZ hGZ (iI_x (xs (i + 1))) (by omega)
  rw [eI (xs (i + 1))] at hcA
  obtain ⟨⟨zcA, zsA⟩, ⟨rcA, rsA⟩, hrA⟩ := lw_room hxZ hxA hGZ hrZ (by omega) hqA (mx_Ca_le hcA)
  refine W.eq (g2 := F0 m 1133 la ((([.int (xs (i + 1))] : List Value).map (mx_v (tB l D s.heap.size ad s.heap tau).2.1.1)).reverse ++ .ref (mx_rho (tB l D s.heap.size ad s.heap tau).2.1.1 1) :: [])) rfl ?_
  refine mx_Wcallv (B := (tB l D s.heap.size ad s.heap tau)) (ci := 11) (r := cr_11) (n := 1) A dl_1133 me_122 rfl (hxZ.obj (lt83 (GI_n hGZ) rfl) (GI_s hGZ 1 rfl)) (tw lx_5_88 rfl) (tw lx_5_89 rfl) (tw lx_5_87 rfl) hcA rfl hl.1 (by exact Nat.le_of_ble_eq_true rfl) hRZ hLoZ (by decide) (by decide) ⟨by show nZ - 1 + (hA.1 - hZ.1) ≤ 600000; rw [zcA]; exact rcA, by show wZ + (hA.2.1 - hZ.2.1) ≤ 7302250; rw [zsA]; exact rsA⟩ (fun HA locsA hRA hLoA => ?_)
  refine W.cs zcA zsA ?_
  have qA : 0 ≤ ZA 1 1 ∧ ZA 1 1 ≤ 900 := hGA.pr 1 1
  have hS1 := lw_S hRA hLoA
  clear hS
  have hS := hS1
  refine W.eq (g2 := F0 m 1136 la (xI zA :: [])) rfl ?_
  refine lv_pop hx0 hb dl_1136 rfl ?_
  refine lv_aload_n hx0 hb dl_1137 rfl (lv_at hl 2 rfl) ?_
  refine lw_arg C0 hS hl (j := 1) (x := 1) (by omega) hL (by decide) (by decide +kernel) dl_1138 dl_1139 dl_1140 dl_1141 dl_1142 ?_
  obtain ⟨zB, nB, wB, SB, ZB, hB, hcB, hxB, hGB, hqB⟩ := sf_264 (l := l) (D := D) (b0 := s.heap.size) (ad := ad) (Hb := s.heap) (tau := tau) (x0 := (xs (i + 1)).toInt) hxA hGA (iI_x (xs (i + 1))) (by omega)
  rw [eI (xs (i + 1))] at hcB
  obtain ⟨⟨zcB, zsB⟩, ⟨rcB, rsB⟩, hrB⟩ := lw_room hxA hxB hGA hrA (by omega) hqB (mx_Ca_le hcB)
  refine W.eq (g2 := F0 m 1143 la ((([.int (xs (i + 1))] : List Value).map (mx_v (tB l D s.heap.size ad s.heap tau).2.1.1)).reverse ++ .ref (mx_rho (tB l D s.heap.size ad s.heap tau).2.1.1 56) :: [])) rfl ?_
  refine mx_Wcallv (B := (tB l D s.heap.size ad s.heap tau)) (ci := 12) (r := cr_12) (n := 1) A dl_1143 me_264 rfl (hxA.obj (lt83 (GI_n hGA) rfl) (GI_s hGA 56 rfl)) (tw lx_8_51 rfl) (tw lx_8_52 rfl) (tw lx_8_50 rfl) hcB rfl hl.1 (by exact Nat.le_of_ble_eq_true rfl) hRA hLoA (by decide) (by decide) ⟨by show nA - 1 + (hB.1 - hA.1) ≤ 600000; rw [zcB]; exact rcB, by show wA + (hB.2.1 - hA.2.1) ≤ 7302250; rw [zsB]; exact rsB⟩ (fun HB locsB hRB hLoB => ?_)
  refine W.cs zcB zsB ?_
  refine W.eq (g2 := F0 m 1146 la (xI zB :: [])) rfl ?_
  refine lv_pop hx0 hb dl_1146 rfl ?_
  refine lv_goto (tgt := 1513) hx0 hb dl_1147 (by decide) ?_
  exact K HB locsB (nB - 1) wB ⟨nB, wB, SB, ZB, hB, hxB, hGB, hRB, hLoB, hl, ⟨by have := hrB.1; omega, hrB.2⟩, rfl, rfl⟩
set_option maxHeartbeats 4000000 in
set_option maxRecDepth 100000 in
theorem lc_34 (C0 : lw_At p s m meth c b L xs) (hL : L ≤ 3072) (A : mx_Wx (tB l D s.heap.size ad s.heap tau) p s m #[Value.ref b] c code 4 R_law) {i : Nat} (hi : i + 6 ≤ L) {ph : Int} (hph : ph ≤ 10489) (hI : lw_I (tB l D s.heap.size ad s.heap tau) s b i ph H locs la cells slots) (K : ∀ (H : Heap) (locs : List Loc) (cells slots : Nat), lw_I (tB l D s.heap.size ad s.heap tau) s b i (ph + 20) H locs la cells slots → W p l e room_1 s m #[Value.ref b] below meth c H locs cells slots Q (F0 m 1513 la [])) : W p l e room_1 s m #[Value.ref b] below meth c H locs cells slots Q (F0 m 1150 la []) := by
  obtain ⟨hx0, hb, hr, hml, hown, hts, hX, hbl, hlocks, hgv⟩ := id C0
  obtain ⟨nZ, wZ, SZ, ZZ, hZ, hxZ, hGZ, hRZ, hLoZ, hl, hrZ, rfl, rfl⟩ := hI
  have qZ : 0 ≤ ZZ 1 1 ∧ ZZ 1 1 ≤ 900 := hGZ.pr 1 1
  have hS := lw_S hRZ hLoZ
  refine lv_aload_n hx0 hb dl_1150 rfl (lv_at hl 1 rfl) ?_
  refine lw_arg C0 hS hl (j := 1) (x := 1) (by omega) hL (by decide) (by decide +kernel) dl_1151 dl_1152 dl_1153 dl_1154 dl_1155 ?_
  obtain ⟨zA, nA, wA, SA, ZA, hA, hcA, hxA, hGA, hqA⟩ := sf_123 (l := l) (D := D) (b0 := s.heap.size) (ad := ad) (Hb := s.heap) (tau := tau) (x0 := (xs (i + 1)).toInt) hxZ hGZ (iI_x (xs (i + 1))) (by omega)
  rw [eI (xs (i + 1))] at hcA
  obtain ⟨⟨zcA, zsA⟩, ⟨rcA, rsA⟩, hrA⟩ := lw_room hxZ hxA hGZ hrZ (by omega) hqA (mx_Ca_le hcA)
  refine W.eq (g2 := F0 m 1156 la ((([.int (xs (i + 1))] : List Value).map (mx_v (tB l D s.heap.size ad s.heap tau).2.1.1)).reverse ++ .ref (mx_rho (tB l D s.heap.size ad s.heap tau).2.1.1 1) :: [])) rfl ?_
  refine mx_Wcallv (B := (tB l D s.heap.size ad s.heap tau)) (ci := 11) (r := cr_11) (n := 1) A dl_1156 me_123 rfl (hxZ.obj (lt83 (GI_n hGZ) rfl) (GI_s hGZ 1 rfl)) (tw lx_5_97 rfl) (tw lx_5_98 rfl) (tw lx_5_96 rfl) hcA rfl hl.1 (by exact Nat.le_of_ble_eq_true rfl) hRZ hLoZ (by decide) (by decide) ⟨by show nZ - 1 + (hA.1 - hZ.1) ≤ 600000; rw [zcA]; exact rcA, by show wZ + (hA.2.1 - hZ.2.1) ≤ 7302250; rw [zsA]; exact rsA⟩ (fun HA locsA hRA hLoA => ?_)
  refine W.cs zcA zsA ?_
  have qA : 0 ≤ ZA 1 1 ∧ ZA 1 1 ≤ 900 := hGA.pr 1 1
  have hS1 := lw_S hRA hLoA
  clear hS
  have hS := hS1
  refine W.eq (g2 := F0 m 1159 la (xI zA :: [])) rfl ?_
  refine lv_pop hx0 hb dl_1159 rfl ?_
  refine lv_aload_n hx0 hb dl_1160 rfl (lv_at hl 2 rfl) ?_
  refine lw_arg C0 hS hl (j := 1) (x := 1) (by omega) hL (by decide) (by decide +kernel) dl_1161 dl_1162 dl_1163 dl_1164 dl_1165 ?_
  obtain ⟨zB, nB, wB, SB, ZB, hB, hcB, hxB, hGB, hqB⟩ := sf_268 (l := l) (D := D) (b0 := s.heap.size) (ad := ad) (Hb := s.heap) (tau := tau) (x0 := (xs (i + 1)).toInt) hxA hGA (iI_x (xs (i + 1))) (by omega)
  rw [eI (xs (i + 1))] at hcB
  obtain ⟨⟨zcB, zsB⟩, ⟨rcB, rsB⟩, hrB⟩ := lw_room hxA hxB hGA hrA (by omega) hqB (mx_Ca_le hcB)
  refine W.eq (g2 := F0 m 1166 la ((([.int (xs (i + 1))] : List Value).map (mx_v (tB l D s.heap.size ad s.heap tau).2.1.1)).reverse ++ .ref (mx_rho (tB l D s.heap.size ad s.heap tau).2.1.1 56) :: [])) rfl ?_
  refine mx_Wcallv (B := (tB l D s.heap.size ad s.heap tau)) (ci := 12) (r := cr_12) (n := 1) A dl_1166 me_268 rfl (hxA.obj (lt83 (GI_n hGA) rfl) (GI_s hGA 56 rfl)) (tw lx_8_62 rfl) (tw lx_8_63 rfl) (tw lx_8_61 rfl) hcB rfl hl.1 (by exact Nat.le_of_ble_eq_true rfl) hRA hLoA (by decide) (by decide) ⟨by show nA - 1 + (hB.1 - hA.1) ≤ 600000; rw [zcB]; exact rcB, by show wA + (hB.2.1 - hA.2.1) ≤ 7302250; rw [zsB]; exact rsB⟩ (fun HB locsB hRB hLoB => ?_)
  refine W.cs zcB zsB ?_
  refine W.eq (g2 := F0 m 1169 la (xI zB :: [])) rfl ?_
  refine lv_pop hx0 hb dl_1169 rfl ?_
  refine lv_goto (tgt := 1513) hx0 hb dl_1170 (by decide) ?_
  exact K HB locsB (nB - 1) wB ⟨nB, wB, SB, ZB, hB, hxB, hGB, hRB, hLoB, hl, ⟨by have := hrB.1; omega, hrB.2⟩, rfl, rfl⟩
set_option maxHeartbeats 4000000 in
set_option maxRecDepth 100000 in
theorem lc_35 (C0 : lw_At p s m meth c b L xs) (hL : L ≤ 3072) (A : mx_Wx (tB l D s.heap.size ad s.heap tau) p s m #[Value.ref b] c code 4 R_law) {i : Nat} (hi : i + 6 ≤ L) {ph : Int} (hph : ph ≤ 10489) (hI : lw_I (tB l D s.heap.size ad s.heap tau) s b i ph H locs la cells slots) (K : ∀ (H : Heap) (locs : List Loc) (cells slots : Nat), lw_I (tB l D s.heap.size ad s.heap tau) s b i (ph + 20) H locs la cells slots → W p l e room_1 s m #[Value.ref b] below meth c H locs cells slots Q (F0 m 1513 la [])) : W p l e room_1 s m #[Value.ref b] below meth c H locs cells slots Q (F0 m 1173 la []) := by
  obtain ⟨hx0, hb, hr, hml, hown, hts, hX, hbl, hlocks, hgv⟩ := id C0
  obtain ⟨nZ, wZ, SZ, ZZ, hZ, hxZ, hGZ, hRZ, hLoZ, hl, hrZ, rfl, rfl⟩ := hI
  have qZ : 0 ≤ ZZ 1 1 ∧ ZZ 1 1 ≤ 900 := hGZ.pr 1 1
  have hS := lw_S hRZ hLoZ
  refine lv_aload_n hx0 hb dl_1173 rfl (lv_at hl 1 rfl) ?_
  refine lw_arg C0 hS hl (j := 1) (x := 1) (by omega) hL (by decide) (by decide +kernel) dl_1174 dl_1175 dl_1176 dl_1177 dl_1178 ?_
  obtain ⟨zA, nA, wA, SA, ZA, hA, hcA, hxA, hGA, hqA⟩ := sf_124 (l := l) (D := D) (b0 := s.heap.size) (ad := ad) (Hb := s.heap) (tau := tau) (x0 := (xs (i + 1)).toInt) hxZ hGZ (iI_x (xs (i + 1))) (by omega)
  rw [eI (xs (i + 1))] at hcA
  obtain ⟨⟨zcA, zsA⟩, ⟨rcA, rsA⟩, hrA⟩ := lw_room hxZ hxA hGZ hrZ (by omega) hqA (mx_Ca_le hcA)
  refine W.eq (g2 := F0 m 1179 la ((([.int (xs (i + 1))] : List Value).map (mx_v (tB l D s.heap.size ad s.heap tau).2.1.1)).reverse ++ .ref (mx_rho (tB l D s.heap.size ad s.heap tau).2.1.1 1) :: [])) rfl ?_
  refine mx_Wcallv (B := (tB l D s.heap.size ad s.heap tau)) (ci := 11) (r := cr_11) (n := 1) A dl_1179 me_124 rfl (hxZ.obj (lt83 (GI_n hGZ) rfl) (GI_s hGZ 1 rfl)) (tw lx_5_114 rfl) (tw lx_5_115 rfl) (tw lx_5_113 rfl) hcA rfl hl.1 (by exact Nat.le_of_ble_eq_true rfl) hRZ hLoZ (by decide) (by decide) ⟨by show nZ - 1 + (hA.1 - hZ.1) ≤ 600000; rw [zcA]; exact rcA, by show wZ + (hA.2.1 - hZ.2.1) ≤ 7302250; rw [zsA]; exact rsA⟩ (fun HA locsA hRA hLoA => ?_)
  refine W.cs zcA zsA ?_
  have qA : 0 ≤ ZA 1 1 ∧ ZA 1 1 ≤ 900 := hGA.pr 1 1
  have hS1 := lw_S hRA hLoA
  clear hS
  have hS := hS1
  refine W.eq (g2 := F0 m 1182 la (xI zA :: [])) rfl ?_
  refine lv_pop hx0 hb dl_1182 rfl ?_
  refine lv_aload_n hx0 hb dl_1183 rfl (lv_at hl 2 rfl) ?_
  refine lw_arg C0 hS hl (j := 1) (x := 1) (by omega) hL (by decide) (by decide +kernel) dl_1184 dl_1185 dl_1186 dl_1187 dl_1188 ?_
  obtain ⟨zB, nB, wB, SB, ZB, hB, hcB, hxB, hGB, hqB⟩ := sf_269 (l := l) (D := D) (b0 := s.heap.size) (ad := ad) (Hb := s.heap) (tau := tau) (x0 := (xs (i + 1)).toInt) hxA hGA (iI_x (xs (i + 1))) (by omega)
  rw [eI (xs (i + 1))] at hcB
  obtain ⟨⟨zcB, zsB⟩, ⟨rcB, rsB⟩, hrB⟩ := lw_room hxA hxB hGA hrA (by omega) hqB (mx_Ca_le hcB)
  refine W.eq (g2 := F0 m 1189 la ((([.int (xs (i + 1))] : List Value).map (mx_v (tB l D s.heap.size ad s.heap tau).2.1.1)).reverse ++ .ref (mx_rho (tB l D s.heap.size ad s.heap tau).2.1.1 56) :: [])) rfl ?_
  refine mx_Wcallv (B := (tB l D s.heap.size ad s.heap tau)) (ci := 12) (r := cr_12) (n := 1) A dl_1189 me_269 rfl (hxA.obj (lt83 (GI_n hGA) rfl) (GI_s hGA 56 rfl)) (tw lx_8_78 rfl) (tw lx_8_79 rfl) (tw lx_8_77 rfl) hcB rfl hl.1 (by exact Nat.le_of_ble_eq_true rfl) hRA hLoA (by decide) (by decide) ⟨by show nA - 1 + (hB.1 - hA.1) ≤ 600000; rw [zcB]; exact rcB, by show wA + (hB.2.1 - hA.2.1) ≤ 7302250; rw [zsB]; exact rsB⟩ (fun HB locsB hRB hLoB => ?_)
  refine W.cs zcB zsB ?_
  refine W.eq (g2 := F0 m 1192 la (xI zB :: [])) rfl ?_
  refine lv_pop hx0 hb dl_1192 rfl ?_
  refine lv_goto (tgt := 1513) hx0 hb dl_1193 (by decide) ?_
  exact K HB locsB (nB - 1) wB ⟨nB, wB, SB, ZB, hB, hxB, hGB, hRB, hLoB, hl, ⟨by have := hrB.1; omega, hrB.2⟩, rfl, rfl⟩
set_option maxHeartbeats 4000000 in
set_option maxRecDepth 100000 in
theorem lc_36 (C0 : lw_At p s m meth c b L xs) (hL : L ≤ 3072) (A : mx_Wx (tB l D s.heap.size ad s.heap tau) p s m #[Value.ref b] c code 4 R_law) {i : Nat} (hi : i + 6 ≤ L) {ph : Int} (hph : ph ≤ 10489) (hI : lw_I (tB l D s.heap.size ad s.heap tau) s b i ph H locs la cells slots) (K : ∀ (H : Heap) (locs : List Loc) (cells slots : Nat), lw_I (tB l D s.heap.size ad s.heap tau) s b i (ph + 20) H locs la cells slots → W p l e room_1 s m #[Value.ref b] below meth c H locs cells slots Q (F0 m 1513 la [])) : W p l e room_1 s m #[Value.ref b] below meth c H locs cells slots Q (F0 m 1196 la []) := by
  obtain ⟨hx0, hb, hr, hml, hown, hts, hX, hbl, hlocks, hgv⟩ := id C0
  obtain ⟨nZ, wZ, SZ, ZZ, hZ, hxZ, hGZ, hRZ, hLoZ, hl, hrZ, rfl, rfl⟩ := hI
  have qZ : 0 ≤ ZZ 1 1 ∧ ZZ 1 1 ≤ 900 := hGZ.pr 1 1
  have hS := lw_S hRZ hLoZ
  refine lv_aload_n hx0 hb dl_1196 rfl (lv_at hl 1 rfl) ?_
  refine lw_arg C0 hS hl (j := 1) (x := 1) (by omega) hL (by decide) (by decide +kernel) dl_1197 dl_1198 dl_1199 dl_1200 dl_1201 ?_
  obtain ⟨zA, nA, wA, SA, ZA, hA, hcA, hxA, hGA, hqA⟩ := sf_125 (l := l) (D := D) (b0 := s.heap.size) (ad := ad) (Hb := s.heap) (tau := tau) (x0 := (xs (i + 1)).toInt) hxZ hGZ (iI_x (xs (i + 1))) (by omega)
  rw [eI (xs (i + 1))] at hcA
  obtain ⟨⟨zcA, zsA⟩, ⟨rcA, rsA⟩, hrA⟩ := lw_room hxZ hxA hGZ hrZ (by omega) hqA (mx_Ca_le hcA)
  refine W.eq (g2 := F0 m 1202 la ((([.int (xs (i + 1))] : List Value).map (mx_v (tB l D s.heap.size ad s.heap tau).2.1.1)).reverse ++ .ref (mx_rho (tB l D s.heap.size ad s.heap tau).2.1.1 1) :: [])) rfl ?_
  refine mx_Wcallv (B := (tB l D s.heap.size ad s.heap tau)) (ci := 11) (r := cr_11) (n := 1) A dl_1202 me_125 rfl (hxZ.obj (lt83 (GI_n hGZ) rfl) (GI_s hGZ 1 rfl)) (tw lx_5_119 rfl) (tw lx_5_120 rfl) (tw lx_5_118 rfl) hcA rfl hl.1 (by exact Nat.le_of_ble_eq_true rfl) hRZ hLoZ (by decide) (by decide) ⟨by show nZ - 1 + (hA.1 - hZ.1) ≤ 600000; rw [zcA]; exact rcA, by show wZ + (hA.2.1 - hZ.2.1) ≤ 7302250; rw [zsA]; exact rsA⟩ (fun HA locsA hRA hLoA => ?_)
  refine W.cs zcA zsA ?_
  have qA : 0 ≤ ZA 1 1 ∧ ZA 1 1 ≤ 900 := hGA.pr 1 1
  have hS1 := lw_S hRA hLoA
  clear hS
  have hS := hS1
  refine W.eq (g2 := F0 m 1205 la (xI zA :: [])) rfl ?_
  refine lv_pop hx0 hb dl_1205 rfl ?_
  refine lv_aload_n hx0 hb dl_1206 rfl (lv_at hl 2 rfl) ?_
  refine lw_arg C0 hS hl (j := 1) (x := 1) (by omega) hL (by decide) (by decide +kernel) dl_1207 dl_1208 dl_1209 dl_1210 dl_1211 ?_
  obtain ⟨zB, nB, wB, SB, ZB, hB, hcB, hxB, hGB, hqB⟩ := sf_270 (l := l) (D := D) (b0 := s.heap.size) (ad := ad) (Hb := s.heap) (tau := tau) (x0 := (xs (i + 1)).toInt) hxA hGA (iI_x (xs (i + 1))) (by omega)
  rw [eI (xs (i + 1))] at hcB
  obtain ⟨⟨zcB, zsB⟩, ⟨rcB, rsB⟩, hrB⟩ := lw_room hxA hxB hGA hrA (by omega) hqB (mx_Ca_le hcB)
  refine W.eq (g2 := F0 m 1212 la ((([.int (xs (i + 1))] : List Value).map (mx_v (tB l D s.heap.size ad s.heap tau).2.1.1)).reverse ++ .ref (mx_rho (tB l D s.heap.size ad s.heap tau).2.1.1 56) :: [])) rfl ?_
  refine mx_Wcallv (B := (tB l D s.heap.size ad s.heap tau)) (ci := 12) (r := cr_12) (n := 1) A dl_1212 me_270 rfl (hxA.obj (lt83 (GI_n hGA) rfl) (GI_s hGA 56 rfl)) (tw lx_8_82 rfl) (tw lx_8_83 rfl) (tw lx_8_81 rfl) hcB rfl hl.1 (by exact Nat.le_of_ble_eq_true rfl) hRA hLoA (by decide) (by decide) ⟨by show nA - 1 + (hB.1 - hA.1) ≤ 600000; rw [zcB]; exact rcB, by show wA + (hB.2.1 - hA.2.1) ≤ 7302250; rw [zsB]; exact rsB⟩ (fun HB locsB hRB hLoB => ?_)
  refine W.cs zcB zsB ?_
  refine W.eq (g2 := F0 m 1215 la (xI zB :: [])) rfl ?_
  refine lv_pop hx0 hb dl_1215 rfl ?_
  refine lv_goto (tgt := 1513) hx0 hb dl_1216 (by decide) ?_
  exact K HB locsB (nB - 1) wB ⟨nB, wB, SB, ZB, hB, hxB, hGB, hRB, hLoB, hl, ⟨by have := hrB.1; omega, hrB.2⟩, rfl, rfl⟩
set_option maxHeartbeats 4000000 in
set_option maxRecDepth 100000 in
theorem lc_37 (C0 : lw_At p s m meth c b L xs) (hL : L ≤ 3072) (A : mx_Wx (tB l D s.heap.size ad s.heap tau) p s m #[Value.ref b] c code 4 R_law) {i : Nat} (hi : i + 6 ≤ L) {ph : Int} (hph : ph ≤ 10489) (hI : lw_I (tB l D s.heap.size ad s.heap tau) s b i ph H locs la cells slots) (K : ∀ (H : Heap) (locs : List Loc) (cells slots : Nat), lw_I (tB l D s.heap.size ad s.heap tau) s b i (ph + 20) H locs la cells slots → W p l e room_1 s m #[Value.ref b] below meth c H locs cells slots Q (F0 m 1513 la [])) : W p l e room_1 s m #[Value.ref b] below meth c H locs cells slots Q (F0 m 1219 la []) := by
  obtain ⟨hx0, hb, hr, hml, hown, hts, hX, hbl, hlocks, hgv⟩ := id C0
  obtain ⟨nZ, wZ, SZ, ZZ, hZ, hxZ, hGZ, hRZ, hLoZ, hl, hrZ, rfl, rfl⟩ := hI
  have qZ : 0 ≤ ZZ 1 1 ∧ ZZ 1 1 ≤ 900 := hGZ.pr 1 1
  have hS := lw_S hRZ hLoZ
  refine lv_aload_n hx0 hb dl_1219 rfl (lv_at hl 1 rfl) ?_
  refine lw_arg C0 hS hl (j := 1) (x := 1) (by omega) hL (by decide) (by decide +kernel) dl_1220 dl_1221 dl_1222 dl_1223 dl_1224 ?_
  refine lw_arg C0 hS hl (j := 2) (x := 2) (by omega) hL (by decide) (by decide +kernel) dl_1225 dl_1226 dl_1227 dl_1228 dl_1229 ?_
  refine lw_arg C0 hS hl (j := 3) (x := 3) (by omega) hL (by decide) (by decide +kernel) dl_1230 dl_1231 dl_1232 dl_1233 dl_1234 ?_
  obtain ⟨zA, nA, wA, SA, ZA, hA, hcA, hxA, hGA, hqA⟩ := sf_126 (l := l) (D := D) (b0 := s.heap.size) (ad := ad) (Hb := s.heap) (tau := tau) (x0 := (xs (i + 1)).toInt) (x1 := (xs (i + 2)).toInt) (x2 := (xs (i + 3)).toInt) hxZ hGZ (iI_x (xs (i + 1))) (iI_x (xs (i + 2))) (iI_x (xs (i + 3))) (by omega)
  rw [eI (xs (i + 1)), eI (xs (i + 2)), eI (xs (i + 3))] at hcA
  obtain ⟨⟨zcA, zsA⟩, ⟨rcA, rsA⟩, hrA⟩ := lw_room hxZ hxA hGZ hrZ (by omega) hqA (mx_Ca_le hcA)
  refine W.eq (g2 := F0 m 1235 la ((([.int (xs (i + 1)), .int (xs (i + 2)), .int (xs (i + 3))] : List Value).map (mx_v (tB l D s.heap.size ad s.heap tau).2.1.1)).reverse ++ .ref (mx_rho (tB l D s.heap.size ad s.heap tau).2.1.1 1) :: [])) rfl ?_
  refine mx_Wcallv (B := (tB l D s.heap.size ad s.heap tau)) (ci := 11) (r := cr_11) (n := 3) A dl_1235 me_126 rfl (hxZ.obj (lt83 (GI_n hGZ) rfl) (GI_s hGZ 1 rfl)) (tw lx_5_123 rfl) (tw lx_5_124 rfl) (tw lx_5_122 rfl) hcA rfl hl.1 (by exact Nat.le_of_ble_eq_true rfl) hRZ hLoZ (by decide) (by decide) ⟨by show nZ - 1 + (hA.1 - hZ.1) ≤ 600000; rw [zcA]; exact rcA, by show wZ + (hA.2.1 - hZ.2.1) ≤ 7302250; rw [zsA]; exact rsA⟩ (fun HA locsA hRA hLoA => ?_)
  refine W.cs zcA zsA ?_
  have qA : 0 ≤ ZA 1 1 ∧ ZA 1 1 ≤ 900 := hGA.pr 1 1
  have hS1 := lw_S hRA hLoA
  clear hS
  have hS := hS1
  refine W.eq (g2 := F0 m 1238 la (xI zA :: [])) rfl ?_
  refine lv_pop hx0 hb dl_1238 rfl ?_
  refine lv_aload_n hx0 hb dl_1239 rfl (lv_at hl 2 rfl) ?_
  refine lw_arg C0 hS hl (j := 1) (x := 1) (by omega) hL (by decide) (by decide +kernel) dl_1240 dl_1241 dl_1242 dl_1243 dl_1244 ?_
  refine lw_arg C0 hS hl (j := 2) (x := 2) (by omega) hL (by decide) (by decide +kernel) dl_1245 dl_1246 dl_1247 dl_1248 dl_1249 ?_
  refine lw_arg C0 hS hl (j := 3) (x := 3) (by omega) hL (by decide) (by decide +kernel) dl_1250 dl_1251 dl_1252 dl_1253 dl_1254 ?_
  obtain ⟨zB, nB, wB, SB, ZB, hB, hcB, hxB, hGB, hqB⟩ := sf_275 (l := l) (D := D) (b0 := s.heap.size) (ad := ad) (Hb := s.heap) (tau := tau) (x0 := (xs (i + 1)).toInt) (x1 := (xs (i + 2)).toInt) (x2 := (xs (i + 3)).toInt) hxA hGA (iI_x (xs (i + 1))) (iI_x (xs (i + 2))) (iI_x (xs (i + 3))) (by omega)
  rw [eI (xs (i + 1)), eI (xs (i + 2)), eI (xs (i + 3))] at hcB
  obtain ⟨⟨zcB, zsB⟩, ⟨rcB, rsB⟩, hrB⟩ := lw_room hxA hxB hGA hrA (by omega) hqB (mx_Ca_le hcB)
  refine W.eq (g2 := F0 m 1255 la ((([.int (xs (i + 1)), .int (xs (i + 2)), .int (xs (i + 3))] : List Value).map (mx_v (tB l D s.heap.size ad s.heap tau).2.1.1)).reverse ++ .ref (mx_rho (tB l D s.heap.size ad s.heap tau).2.1.1 56) :: [])) rfl ?_
  refine mx_Wcallv (B := (tB l D s.heap.size ad s.heap tau)) (ci := 12) (r := cr_12) (n := 3) A dl_1255 me_275 rfl (hxA.obj (lt83 (GI_n hGA) rfl) (GI_s hGA 56 rfl)) (tw lx_8_86 rfl) (tw lx_8_87 rfl) (tw lx_8_85 rfl) hcB rfl hl.1 (by exact Nat.le_of_ble_eq_true rfl) hRA hLoA (by decide) (by decide) ⟨by show nA - 1 + (hB.1 - hA.1) ≤ 600000; rw [zcB]; exact rcB, by show wA + (hB.2.1 - hA.2.1) ≤ 7302250; rw [zsB]; exact rsB⟩ (fun HB locsB hRB hLoB => ?_)
  refine W.cs zcB zsB ?_
  refine W.eq (g2 := F0 m 1258 la (xI zB :: [])) rfl ?_
  refine lv_pop hx0 hb dl_1258 rfl ?_
  refine lv_goto (tgt := 1513) hx0 hb dl_1259 (by decide) ?_
  exact K HB locsB (nB - 1) wB ⟨nB, wB, SB, ZB, hB, hxB, hGB, hRB, hLoB, hl, ⟨by have := hrB.1; omega, hrB.2⟩, rfl, rfl⟩
set_option maxHeartbeats 4000000 in
set_option maxRecDepth 100000 in
theorem lc_38 (C0 : lw_At p s m meth c b L xs) (hL : L ≤ 3072) (A : mx_Wx (tB l D s.heap.size ad s.heap tau) p s m #[Value.ref b] c code 4 R_law) {i : Nat} (hi : i + 6 ≤ L) {ph : Int} (hph : ph ≤ 10489) (hI : lw_I (tB l D s.heap.size ad s.heap tau) s b i ph H locs la cells slots) (K : ∀ (H : Heap) (locs : List Loc) (cells slots : Nat), lw_I (tB l D s.heap.size ad s.heap tau) s b i (ph + 20) H locs la cells slots → W p l e room_1 s m #[Value.ref b] below meth c H locs cells slots Q (F0 m 1513 la [])) : W p l e room_1 s m #[Value.ref b] below meth c H locs cells slots Q (F0 m 1262 la []) := by
  obtain ⟨hx0, hb, hr, hml, hown, hts, hX, hbl, hlocks, hgv⟩ := id C0
  obtain ⟨nZ, wZ, SZ, ZZ, hZ, hxZ, hGZ, hRZ, hLoZ, hl, hrZ, rfl, rfl⟩ := hI
  have qZ : 0 ≤ ZZ 1 1 ∧ ZZ 1 1 ≤ 900 := hGZ.pr 1 1
  have hS := lw_S hRZ hLoZ
  refine lv_aload_n hx0 hb dl_1262 rfl (lv_at hl 1 rfl) ?_
  refine lw_arg C0 hS hl (j := 1) (x := 1) (by omega) hL (by decide) (by decide +kernel) dl_1263 dl_1264 dl_1265 dl_1266 dl_1267 ?_
  refine lw_arg C0 hS hl (j := 2) (x := 2) (by omega) hL (by decide) (by decide +kernel) dl_1268 dl_1269 dl_1270 dl_1271 dl_1272 ?_
  obtain ⟨zA, nA, wA, SA, ZA, hA, hcA, hxA, hGA, hqA⟩ := sf_127 (l := l) (D := D) (b0 := s.heap.size) (ad := ad) (Hb := s.heap) (tau := tau) (x0 := (xs (i + 1)).toInt) (x1 := (xs (i + 2)).toInt) hxZ hGZ (iI_x (xs (i + 1))) (iI_x (xs (i + 2))) (by omega)
  rw [eI (xs (i + 1)), eI (xs (i + 2))] at hcA
  obtain ⟨⟨zcA, zsA⟩, ⟨rcA, rsA⟩, hrA⟩ := lw_room hxZ hxA hGZ hrZ (by omega) hqA (mx_Ca_le hcA)
  refine W.eq (g2 := F0 m 1273 la ((([.int (xs (i + 1)), .int (xs (i + 2))] : List Value).map (mx_v (tB l D s.heap.size ad s.heap tau).2.1.1)).reverse ++ .ref (mx_rho (tB l D s.heap.size ad s.heap tau).2.1.1 1) :: [])) rfl ?_
  refine mx_Wcallv (B := (tB l D s.heap.size ad s.heap tau)) (ci := 11) (r := cr_11) (n := 2) A dl_1273 me_127 rfl (hxZ.obj (lt83 (GI_n hGZ) rfl) (GI_s hGZ 1 rfl)) (tw lx_5_143 rfl) (tw lx_5_144 rfl) (tw lx_5_142 rfl) hcA rfl hl.1 (by exact Nat.le_of_ble_eq_true rfl) hRZ hLoZ (by decide) (by decide) ⟨by show nZ - 1 + (hA.1 - hZ.1) ≤ 600000; rw [zcA]; exact rcA, by show wZ + (hA.2.1 - hZ.2.1) ≤ 7302250; rw [zsA]; exact rsA⟩ (fun HA locsA hRA hLoA => ?_)
  refine W.cs zcA zsA ?_
  have qA : 0 ≤ ZA 1 1 ∧ ZA 1 1 ≤ 900 := hGA.pr 1 1
  have hS1 := lw_S hRA hLoA
  clear hS
  have hS := hS1
  refine W.eq (g2 := F0 m 1276 la (xI zA :: [])) rfl ?_
  refine lv_pop hx0 hb dl_1276 rfl ?_
  refine lv_aload_n hx0 hb dl_1277 rfl (lv_at hl 2 rfl) ?_
  refine lw_arg C0 hS hl (j := 1) (x := 1) (by omega) hL (by decide) (by decide +kernel) dl_1278 dl_1279 dl_1280 dl_1281 dl_1282 ?_
  refine lw_arg C0 hS hl (j := 2) (x := 2) (by omega) hL (by decide) (by decide +kernel) dl_1283 dl_1284 dl_1285 dl_1286 dl_1287 ?_
  obtain ⟨zB, nB, wB, SB, ZB, hB, hcB, hxB, hGB, hqB⟩ := sf_276 (l := l) (D := D) (b0 := s.heap.size) (ad := ad) (Hb := s.heap) (tau := tau) (x0 := (xs (i + 1)).toInt) (x1 := (xs (i + 2)).toInt) hxA hGA (iI_x (xs (i + 1))) (iI_x (xs (i + 2))) (by omega)
  rw [eI (xs (i + 1)), eI (xs (i + 2))] at hcB
  obtain ⟨⟨zcB, zsB⟩, ⟨rcB, rsB⟩, hrB⟩ := lw_room hxA hxB hGA hrA (by omega) hqB (mx_Ca_le hcB)
  refine W.eq (g2 := F0 m 1288 la ((([.int (xs (i + 1)), .int (xs (i + 2))] : List Value).map (mx_v (tB l D s.heap.size ad s.heap tau).2.1.1)).reverse ++ .ref (mx_rho (tB l D s.heap.size ad s.heap tau).2.1.1 56) :: [])) rfl ?_
  refine mx_Wcallv (B := (tB l D s.heap.size ad s.heap tau)) (ci := 12) (r := cr_12) (n := 2) A dl_1288 me_276 rfl (hxA.obj (lt83 (GI_n hGA) rfl) (GI_s hGA 56 rfl)) (tw lx_8_104 rfl) (tw lx_8_105 rfl) (tw lx_8_103 rfl) hcB rfl hl.1 (by exact Nat.le_of_ble_eq_true rfl) hRA hLoA (by decide) (by decide) ⟨by show nA - 1 + (hB.1 - hA.1) ≤ 600000; rw [zcB]; exact rcB, by show wA + (hB.2.1 - hA.2.1) ≤ 7302250; rw [zsB]; exact rsB⟩ (fun HB locsB hRB hLoB => ?_)
  refine W.cs zcB zsB ?_
  refine W.eq (g2 := F0 m 1291 la (xI zB :: [])) rfl ?_
  refine lv_pop hx0 hb dl_1291 rfl ?_
  refine lv_goto (tgt := 1513) hx0 hb dl_1292 (by decide) ?_
  exact K HB locsB (nB - 1) wB ⟨nB, wB, SB, ZB, hB, hxB, hGB, hRB, hLoB, hl, ⟨by have := hrB.1; omega, hrB.2⟩, rfl, rfl⟩
set_option maxHeartbeats 4000000 in
set_option maxRecDepth 100000 in
theorem lc_39 (C0 : lw_At p s m meth c b L xs) (hL : L ≤ 3072) (A : mx_Wx (tB l D s.heap.size ad s.heap tau) p s m #[Value.ref b] c code 4 R_law) {i : Nat} (hi : i + 6 ≤ L) {ph : Int} (hph : ph ≤ 10489) (hI : lw_I (tB l D s.heap.size ad s.heap tau) s b i ph H locs la cells slots) (K : ∀ (H : Heap) (locs : List Loc) (cells slots : Nat), lw_I (tB l D s.heap.size ad s.heap tau) s b i (ph + 20) H locs la cells slots → W p l e room_1 s m #[Value.ref b] below meth c H locs cells slots Q (F0 m 1513 la [])) : W p l e room_1 s m #[Value.ref b] below meth c H locs cells slots Q (F0 m 1295 la []) := by
  obtain ⟨hx0, hb, hr, hml, hown, hts, hX, hbl, hlocks, hgv⟩ := id C0
  obtain ⟨nZ, wZ, SZ, ZZ, hZ, hxZ, hGZ, hRZ, hLoZ, hl, hrZ, rfl, rfl⟩ := hI
  have qZ : 0 ≤ ZZ 1 1 ∧ ZZ 1 1 ≤ 900 := hGZ.pr 1 1
  have hS := lw_S hRZ hLoZ
  refine lv_aload_n hx0 hb dl_1295 rfl (lv_at hl 1 rfl) ?_
  refine lw_arg C0 hS hl (j := 1) (x := 1) (by omega) hL (by decide) (by decide +kernel) dl_1296 dl_1297 dl_1298 dl_1299 dl_1300 ?_
  refine lw_arg C0 hS hl (j := 2) (x := 2) (by omega) hL (by decide) (by decide +kernel) dl_1301 dl_1302 dl_1303 dl_1304 dl_1305 ?_
  refine lw_arg C0 hS hl (j := 3) (x := 3) (by omega) hL (by decide) (by decide +kernel) dl_1306 dl_1307 dl_1308 dl_1309 dl_1310 ?_
  obtain ⟨zA, nA, wA, SA, ZA, hA, hcA, hxA, hGA, hqA, hpA⟩ := sf_128 (l := l) (D := D) (b0 := s.heap.size) (ad := ad) (Hb := s.heap) (tau := tau) (x0 := (xs (i + 1)).toInt) (x1 := (xs (i + 2)).toInt) (x2 := (xs (i + 3)).toInt) hxZ hGZ (iI_x (xs (i + 1))) (iI_x (xs (i + 2))) (iI_x (xs (i + 3))) (by omega)
  rw [eI (xs (i + 1)), eI (xs (i + 2)), eI (xs (i + 3))] at hcA
  obtain ⟨⟨zcA, zsA⟩, ⟨rcA, rsA⟩, hrA⟩ := lw_room hxZ hxA hGZ hrZ (by omega) hqA (mx_Ca_le hcA)
  refine W.eq (g2 := F0 m 1311 la ((([.int (xs (i + 1)), .int (xs (i + 2)), .int (xs (i + 3))] : List Value).map (mx_v (tB l D s.heap.size ad s.heap tau).2.1.1)).reverse ++ .ref (mx_rho (tB l D s.heap.size ad s.heap tau).2.1.1 1) :: [])) rfl ?_
  refine mx_Wcallv (B := (tB l D s.heap.size ad s.heap tau)) (ci := 11) (r := cr_11) (n := 3) A dl_1311 me_128 rfl (hxZ.obj (lt83 (GI_n hGZ) rfl) (GI_s hGZ 1 rfl)) (tw lx_5_151 rfl) (tw lx_5_152 rfl) (tw lx_5_150 rfl) hcA rfl hl.1 (by exact Nat.le_of_ble_eq_true rfl) hRZ hLoZ (by decide) (by decide) ⟨by show nZ - 1 + (hA.1 - hZ.1) ≤ 600000; rw [zcA]; exact rcA, by show wZ + (hA.2.1 - hZ.2.1) ≤ 7302250; rw [zsA]; exact rsA⟩ (fun HA locsA hRA hLoA => ?_)
  refine W.cs zcA zsA ?_
  have qA : 0 ≤ ZA 1 1 ∧ ZA 1 1 ≤ 900 := hGA.pr 1 1
  have hS1 := lw_S hRA hLoA
  clear hS
  have hS := hS1
  refine W.eq (g2 := F0 m 1314 la (xI zA :: [])) rfl ?_
  refine lv_aload_n hx0 hb dl_1314 rfl (lv_at hl 2 rfl) ?_
  refine lw_arg C0 hS hl (j := 1) (x := 1) (by omega) hL (by decide) (by decide +kernel) dl_1315 dl_1316 dl_1317 dl_1318 dl_1319 ?_
  refine lw_arg C0 hS hl (j := 2) (x := 2) (by omega) hL (by decide) (by decide +kernel) dl_1320 dl_1321 dl_1322 dl_1323 dl_1324 ?_
  refine lw_arg C0 hS hl (j := 3) (x := 3) (by omega) hL (by decide) (by decide +kernel) dl_1325 dl_1326 dl_1327 dl_1328 dl_1329 ?_
  obtain ⟨zB, nB, wB, SB, ZB, hB, hcB, hxB, hGB, hqB, hpB⟩ := sf_278 (l := l) (D := D) (b0 := s.heap.size) (ad := ad) (Hb := s.heap) (tau := tau) (x0 := (xs (i + 1)).toInt) (x1 := (xs (i + 2)).toInt) (x2 := (xs (i + 3)).toInt) hxA hGA (iI_x (xs (i + 1))) (iI_x (xs (i + 2))) (iI_x (xs (i + 3))) (by omega)
  rw [eI (xs (i + 1)), eI (xs (i + 2)), eI (xs (i + 3))] at hcB
  obtain ⟨⟨zcB, zsB⟩, ⟨rcB, rsB⟩, hrB⟩ := lw_room hxA hxB hGA hrA (by omega) hqB (mx_Ca_le hcB)
  refine W.eq (g2 := F0 m 1330 la ((([.int (xs (i + 1)), .int (xs (i + 2)), .int (xs (i + 3))] : List Value).map (mx_v (tB l D s.heap.size ad s.heap tau).2.1.1)).reverse ++ .ref (mx_rho (tB l D s.heap.size ad s.heap tau).2.1.1 56) :: xI zA :: [])) rfl ?_
  refine mx_Wcallv (B := (tB l D s.heap.size ad s.heap tau)) (ci := 12) (r := cr_12) (n := 3) A dl_1330 me_278 rfl (hxA.obj (lt83 (GI_n hGA) rfl) (GI_s hGA 56 rfl)) (tw lx_8_108 rfl) (tw lx_8_109 rfl) (tw lx_8_107 rfl) hcB rfl hl.1 (by exact Nat.le_of_ble_eq_true rfl) hRA hLoA (by decide) (by decide) ⟨by show nA - 1 + (hB.1 - hA.1) ≤ 600000; rw [zcB]; exact rcB, by show wA + (hB.2.1 - hA.2.1) ≤ 7302250; rw [zsB]; exact rsB⟩ (fun HB locsB hRB hLoB => ?_)
  refine W.cs zcB zsB ?_
  refine W.eq (g2 := F0 m 1333 la (xI zB :: xI zA :: [])) rfl ?_
  have eAB : zA = zB := by omega
  refine lv_icmp_eq (tgt := 1513) hx0 hb dl_1333 (by decide) (fun _ => K HB locsB (nB - 1) wB ⟨nB, wB, SB, ZB, hB, hxB, hGB, hRB, hLoB, hl, ⟨by have := hrB.1; omega, hrB.2⟩, rfl, rfl⟩) (fun z => absurd (by rw [eAB]) z)
set_option maxHeartbeats 4000000 in
set_option maxRecDepth 100000 in
theorem lc_40 (C0 : lw_At p s m meth c b L xs) (hL : L ≤ 3072) (A : mx_Wx (tB l D s.heap.size ad s.heap tau) p s m #[Value.ref b] c code 4 R_law) {i : Nat} (hi : i + 6 ≤ L) {ph : Int} (hph : ph ≤ 10489) (hI : lw_I (tB l D s.heap.size ad s.heap tau) s b i ph H locs la cells slots) (K : ∀ (H : Heap) (locs : List Loc) (cells slots : Nat), lw_I (tB l D s.heap.size ad s.heap tau) s b i (ph + 20) H locs la cells slots → W p l e room_1 s m #[Value.ref b] below meth c H locs cells slots Q (F0 m 1513 la [])) : W p l e room_1 s m #[Value.ref b] below meth c H locs cells slots Q (F0 m 1338 la []) := by
  obtain ⟨hx0, hb, hr, hml, hown, hts, hX, hbl, hlocks, hgv⟩ := id C0
  obtain ⟨nZ, wZ, SZ, ZZ, hZ, hxZ, hGZ, hRZ, hLoZ, hl, hrZ, rfl, rfl⟩ := hI
  have qZ : 0 ≤ ZZ 1 1 ∧ ZZ 1 1 ≤ 900 := hGZ.pr 1 1
  have hS := lw_S hRZ hLoZ
  refine lv_aload_n hx0 hb dl_1338 rfl (lv_at hl 1 rfl) ?_
  refine lw_arg C0 hS hl (j := 1) (x := 1) (by omega) hL (by decide) (by decide +kernel) dl_1339 dl_1340 dl_1341 dl_1342 dl_1343 ?_
  refine lw_arg C0 hS hl (j := 2) (x := 2) (by omega) hL (by decide) (by decide +kernel) dl_1344 dl_1345 dl_1346 dl_1347 dl_1348 ?_
  refine lw_arg C0 hS hl (j := 3) (x := 3) (by omega) hL (by decide) (by decide +kernel) dl_1349 dl_1350 dl_1351 dl_1352 dl_1353 ?_
  refine lv_i2l hx0 hb dl_1354 rfl ?_
  refine lv_bipush (v := 32) hx0 hb dl_1355 (by decide) ?_
  refine lv_lshl hx0 hb dl_1357 rfl ?_
  refine lw_arg C0 hS hl (j := 4) (x := 4) (by omega) hL (by decide) (by decide +kernel) dl_1358 dl_1359 dl_1360 dl_1361 dl_1362 ?_
  refine lv_i2l hx0 hb dl_1363 rfl ?_
  refine W.ldc2 hx0 hb hown (hts _ lx_8_135) rfl dl_1364 ?_
  refine lv_land hx0 hb dl_1367 ?_
  refine lv_lor hx0 hb dl_1368 ?_
  obtain ⟨zA, nA, wA, SA, ZA, hA, hcA, hxA, hGA, hqA⟩ := sf_129 (l := l) (D := D) (b0 := s.heap.size) (ad := ad) (Hb := s.heap) (tau := tau) (x0 := (xs (i + 1)).toInt) (x1 := (xs (i + 2)).toInt) (x2 := ((xs (i + 3)).toInt64 <<< ((32 : Int32).toInt64 &&& 63) ||| ((xs (i + 4)).toInt64 &&& 4294967295)).toInt) hxZ hGZ (iI_x (xs (i + 1))) (iI_x (xs (i + 2))) (iL_x ((xs (i + 3)).toInt64 <<< ((32 : Int32).toInt64 &&& 63) ||| ((xs (i + 4)).toInt64 &&& 4294967295))) (by omega)
  rw [eI (xs (i + 1)), eI (xs (i + 2)), eL ((xs (i + 3)).toInt64 <<< ((32 : Int32).toInt64 &&& 63) ||| ((xs (i + 4)).toInt64 &&& 4294967295))] at hcA
  obtain ⟨⟨zcA, zsA⟩, ⟨rcA, rsA⟩, hrA⟩ := lw_room hxZ hxA hGZ hrZ (by omega) hqA (mx_Ca_le hcA)
  refine W.eq (g2 := F0 m 1369 la ((([.int (xs (i + 1)), .int (xs (i + 2)), .long ((xs (i + 3)).toInt64 <<< ((32 : Int32).toInt64 &&& 63) ||| ((xs (i + 4)).toInt64 &&& 4294967295))] : List Value).map (mx_v (tB l D s.heap.size ad s.heap tau).2.1.1)).reverse ++ .ref (mx_rho (tB l D s.heap.size ad s.heap tau).2.1.1 1) :: [])) rfl ?_
  refine mx_Wcallv (B := (tB l D s.heap.size ad s.heap tau)) (ci := 11) (r := cr_11) (n := 3) A dl_1369 me_129 rfl (hxZ.obj (lt83 (GI_n hGZ) rfl) (GI_s hGZ 1 rfl)) (tw lx_5_162 rfl) (tw lx_5_163 rfl) (tw lx_5_161 rfl) hcA rfl hl.1 (by exact Nat.le_of_ble_eq_true rfl) hRZ hLoZ (by decide) (by decide) ⟨by show nZ - 1 + (hA.1 - hZ.1) ≤ 600000; rw [zcA]; exact rcA, by show wZ + (hA.2.1 - hZ.2.1) ≤ 7302250; rw [zsA]; exact rsA⟩ (fun HA locsA hRA hLoA => ?_)
  refine W.cs zcA zsA ?_
  have qA : 0 ≤ ZA 1 1 ∧ ZA 1 1 ≤ 900 := hGA.pr 1 1
  have hS1 := lw_S hRA hLoA
  clear hS
  have hS := hS1
  refine W.eq (g2 := F0 m 1372 la (xL zA :: [])) rfl ?_
  refine lv_pop2_2 hx0 hb dl_1372 rfl ?_
  refine lv_aload_n hx0 hb dl_1373 rfl (lv_at hl 2 rfl) ?_
  refine lw_arg C0 hS hl (j := 1) (x := 1) (by omega) hL (by decide) (by decide +kernel) dl_1374 dl_1375 dl_1376 dl_1377 dl_1378 ?_
  refine lw_arg C0 hS hl (j := 2) (x := 2) (by omega) hL (by decide) (by decide +kernel) dl_1379 dl_1380 dl_1381 dl_1382 dl_1383 ?_
  refine lw_arg C0 hS hl (j := 3) (x := 3) (by omega) hL (by decide) (by decide +kernel) dl_1384 dl_1385 dl_1386 dl_1387 dl_1388 ?_
  refine lv_i2l hx0 hb dl_1389 rfl ?_
  refine lv_bipush (v := 32) hx0 hb dl_1390 (by decide) ?_
  refine lv_lshl hx0 hb dl_1392 rfl ?_
  refine lw_arg C0 hS hl (j := 4) (x := 4) (by omega) hL (by decide) (by decide +kernel) dl_1393 dl_1394 dl_1395 dl_1396 dl_1397 ?_
  refine lv_i2l hx0 hb dl_1398 rfl ?_
  refine W.ldc2 hx0 hb hown (hts _ lx_8_135) rfl dl_1399 ?_
  refine lv_land hx0 hb dl_1402 ?_
  refine lv_lor hx0 hb dl_1403 ?_
  obtain ⟨zB, nB, wB, SB, ZB, hB, hcB, hxB, hGB, hqB⟩ := sf_279 (l := l) (D := D) (b0 := s.heap.size) (ad := ad) (Hb := s.heap) (tau := tau) (x0 := (xs (i + 1)).toInt) (x1 := (xs (i + 2)).toInt) (x2 := ((xs (i + 3)).toInt64 <<< ((32 : Int32).toInt64 &&& 63) ||| ((xs (i + 4)).toInt64 &&& 4294967295)).toInt) hxA hGA (iI_x (xs (i + 1))) (iI_x (xs (i + 2))) (iL_x ((xs (i + 3)).toInt64 <<< ((32 : Int32).toInt64 &&& 63) ||| ((xs (i + 4)).toInt64 &&& 4294967295))) (by omega)
  rw [eI (xs (i + 1)), eI (xs (i + 2)), eL ((xs (i + 3)).toInt64 <<< ((32 : Int32).toInt64 &&& 63) ||| ((xs (i + 4)).toInt64 &&& 4294967295))] at hcB
  obtain ⟨⟨zcB, zsB⟩, ⟨rcB, rsB⟩, hrB⟩ := lw_room hxA hxB hGA hrA (by omega) hqB (mx_Ca_le hcB)
  refine W.eq (g2 := F0 m 1404 la ((([.int (xs (i + 1)), .int (xs (i + 2)), .long ((xs (i + 3)).toInt64 <<< ((32 : Int32).toInt64 &&& 63) ||| ((xs (i + 4)).toInt64 &&& 4294967295))] : List Value).map (mx_v (tB l D s.heap.size ad s.heap tau).2.1.1)).reverse ++ .ref (mx_rho (tB l D s.heap.size ad s.heap tau).2.1.1 56) :: [])) rfl ?_
  refine mx_Wcallv (B := (tB l D s.heap.size ad s.heap tau)) (ci := 12) (r := cr_12) (n := 3) A dl_1404 me_279 rfl (hxA.obj (lt83 (GI_n hGA) rfl) (GI_s hGA 56 rfl)) (tw lx_8_112 rfl) (tw lx_8_113 rfl) (tw lx_8_111 rfl) hcB rfl hl.1 (by exact Nat.le_of_ble_eq_true rfl) hRA hLoA (by decide) (by decide) ⟨by show nA - 1 + (hB.1 - hA.1) ≤ 600000; rw [zcB]; exact rcB, by show wA + (hB.2.1 - hA.2.1) ≤ 7302250; rw [zsB]; exact rsB⟩ (fun HB locsB hRB hLoB => ?_)
  refine W.cs zcB zsB ?_
  refine W.eq (g2 := F0 m 1407 la (xL zB :: [])) rfl ?_
  refine lv_pop2_2 hx0 hb dl_1407 rfl ?_
  refine lv_goto (tgt := 1513) hx0 hb dl_1408 (by decide) ?_
  exact K HB locsB (nB - 1) wB ⟨nB, wB, SB, ZB, hB, hxB, hGB, hRB, hLoB, hl, ⟨by have := hrB.1; omega, hrB.2⟩, rfl, rfl⟩
set_option maxHeartbeats 4000000 in
set_option maxRecDepth 100000 in
theorem lc_41 (C0 : lw_At p s m meth c b L xs) (hL : L ≤ 3072) (A : mx_Wx (tB l D s.heap.size ad s.heap tau) p s m #[Value.ref b] c code 4 R_law) {i : Nat} (hi : i + 6 ≤ L) {ph : Int} (hph : ph ≤ 10489) (hI : lw_I (tB l D s.heap.size ad s.heap tau) s b i ph H locs la cells slots) (K : ∀ (H : Heap) (locs : List Loc) (cells slots : Nat), lw_I (tB l D s.heap.size ad s.heap tau) s b i (ph + 20) H locs la cells slots → W p l e room_1 s m #[Value.ref b] below meth c H locs cells slots Q (F0 m 1513 la [])) : W p l e room_1 s m #[Value.ref b] below meth c H locs cells slots Q (F0 m 1411 la []) := by
  obtain ⟨hx0, hb, hr, hml, hown, hts, hX, hbl, hlocks, hgv⟩ := id C0
  obtain ⟨nZ, wZ, SZ, ZZ, hZ, hxZ, hGZ, hRZ, hLoZ, hl, hrZ, rfl, rfl⟩ := hI
  have qZ : 0 ≤ ZZ 1 1 ∧ ZZ 1 1 ≤ 900 := hGZ.pr 1 1
  have hS := lw_S hRZ hLoZ
  refine lv_aload_n hx0 hb dl_1411 rfl (lv_at hl 1 rfl) ?_
  refine lw_arg C0 hS hl (j := 1) (x := 1) (by omega) hL (by decide) (by decide +kernel) dl_1412 dl_1413 dl_1414 dl_1415 dl_1416 ?_
  refine lw_arg C0 hS hl (j := 2) (x := 2) (by omega) hL (by decide) (by decide +kernel) dl_1417 dl_1418 dl_1419 dl_1420 dl_1421 ?_
  obtain ⟨zA, nA, wA, SA, ZA, hA, hcA, hxA, hGA, hqA⟩ := sf_130 (l := l) (D := D) (b0 := s.heap.size) (ad := ad) (Hb := s.heap) (tau := tau) (x0 := (xs (i + 1)).toInt) (x1 := (xs (i + 2)).toInt) hxZ hGZ (iI_x (xs (i + 1))) (iI_x (xs (i + 2))) (by omega)
  rw [eI (xs (i + 1)), eI (xs (i + 2))] at hcA
  obtain ⟨⟨zcA, zsA⟩, ⟨rcA, rsA⟩, hrA⟩ := lw_room hxZ hxA hGZ hrZ (by omega) hqA (mx_Ca_le hcA)
  refine W.eq (g2 := F0 m 1422 la ((([.int (xs (i + 1)), .int (xs (i + 2))] : List Value).map (mx_v (tB l D s.heap.size ad s.heap tau).2.1.1)).reverse ++ .ref (mx_rho (tB l D s.heap.size ad s.heap tau).2.1.1 1) :: [])) rfl ?_
  refine mx_Wcallv (B := (tB l D s.heap.size ad s.heap tau)) (ci := 11) (r := cr_11) (n := 2) A dl_1422 me_130 rfl (hxZ.obj (lt83 (GI_n hGZ) rfl) (GI_s hGZ 1 rfl)) (tw lx_5_173 rfl) (tw lx_5_174 rfl) (tw lx_5_172 rfl) hcA rfl hl.1 (by exact Nat.le_of_ble_eq_true rfl) hRZ hLoZ (by decide) (by decide) ⟨by show nZ - 1 + (hA.1 - hZ.1) ≤ 600000; rw [zcA]; exact rcA, by show wZ + (hA.2.1 - hZ.2.1) ≤ 7302250; rw [zsA]; exact rsA⟩ (fun HA locsA hRA hLoA => ?_)
  refine W.cs zcA zsA ?_
  have qA : 0 ≤ ZA 1 1 ∧ ZA 1 1 ≤ 900 := hGA.pr 1 1
  have hS1 := lw_S hRA hLoA
  clear hS
  have hS := hS1
  refine W.eq (g2 := F0 m 1425 la (xI zA :: [])) rfl ?_
  refine lv_pop hx0 hb dl_1425 rfl ?_
  refine lv_aload_n hx0 hb dl_1426 rfl (lv_at hl 2 rfl) ?_
  refine lw_arg C0 hS hl (j := 1) (x := 1) (by omega) hL (by decide) (by decide +kernel) dl_1427 dl_1428 dl_1429 dl_1430 dl_1431 ?_
  refine lw_arg C0 hS hl (j := 2) (x := 2) (by omega) hL (by decide) (by decide +kernel) dl_1432 dl_1433 dl_1434 dl_1435 dl_1436 ?_
  obtain ⟨zB, nB, wB, SB, ZB, hB, hcB, hxB, hGB, hqB⟩ := sf_280 (l := l) (D := D) (b0 := s.heap.size) (ad := ad) (Hb := s.heap) (tau := tau) (x0 := (xs (i + 1)).toInt) (x1 := (xs (i + 2)).toInt) hxA hGA (iI_x (xs (i + 1))) (iI_x (xs (i + 2))) (by omega)
  rw [eI (xs (i + 1)), eI (xs (i + 2))] at hcB
  obtain ⟨⟨zcB, zsB⟩, ⟨rcB, rsB⟩, hrB⟩ := lw_room hxA hxB hGA hrA (by omega) hqB (mx_Ca_le hcB)
  refine W.eq (g2 := F0 m 1437 la ((([.int (xs (i + 1)), .int (xs (i + 2))] : List Value).map (mx_v (tB l D s.heap.size ad s.heap tau).2.1.1)).reverse ++ .ref (mx_rho (tB l D s.heap.size ad s.heap tau).2.1.1 56) :: [])) rfl ?_
  refine mx_Wcallv (B := (tB l D s.heap.size ad s.heap tau)) (ci := 12) (r := cr_12) (n := 2) A dl_1437 me_280 rfl (hxA.obj (lt83 (GI_n hGA) rfl) (GI_s hGA 56 rfl)) (tw lx_8_120 rfl) (tw lx_8_121 rfl) (tw lx_8_119 rfl) hcB rfl hl.1 (by exact Nat.le_of_ble_eq_true rfl) hRA hLoA (by decide) (by decide) ⟨by show nA - 1 + (hB.1 - hA.1) ≤ 600000; rw [zcB]; exact rcB, by show wA + (hB.2.1 - hA.2.1) ≤ 7302250; rw [zsB]; exact rsB⟩ (fun HB locsB hRB hLoB => ?_)
  refine W.cs zcB zsB ?_
  refine W.eq (g2 := F0 m 1440 la (xI zB :: [])) rfl ?_
  refine lv_pop hx0 hb dl_1440 rfl ?_
  refine lv_goto (tgt := 1513) hx0 hb dl_1441 (by decide) ?_
  exact K HB locsB (nB - 1) wB ⟨nB, wB, SB, ZB, hB, hxB, hGB, hRB, hLoB, hl, ⟨by have := hrB.1; omega, hrB.2⟩, rfl, rfl⟩
set_option maxHeartbeats 4000000 in
set_option maxRecDepth 100000 in
theorem lc_42 (C0 : lw_At p s m meth c b L xs) (hL : L ≤ 3072) (A : mx_Wx (tB l D s.heap.size ad s.heap tau) p s m #[Value.ref b] c code 4 R_law) {i : Nat} (hi : i + 6 ≤ L) {ph : Int} (hph : ph ≤ 10489) (hI : lw_I (tB l D s.heap.size ad s.heap tau) s b i ph H locs la cells slots) (K : ∀ (H : Heap) (locs : List Loc) (cells slots : Nat), lw_I (tB l D s.heap.size ad s.heap tau) s b i (ph + 20) H locs la cells slots → W p l e room_1 s m #[Value.ref b] below meth c H locs cells slots Q (F0 m 1513 la [])) : W p l e room_1 s m #[Value.ref b] below meth c H locs cells slots Q (F0 m 1444 la []) := by
  obtain ⟨hx0, hb, hr, hml, hown, hts, hX, hbl, hlocks, hgv⟩ := id C0
  obtain ⟨nZ, wZ, SZ, ZZ, hZ, hxZ, hGZ, hRZ, hLoZ, hl, hrZ, rfl, rfl⟩ := hI
  have qZ : 0 ≤ ZZ 1 1 ∧ ZZ 1 1 ≤ 900 := hGZ.pr 1 1
  have hS := lw_S hRZ hLoZ
  refine lv_aload_n hx0 hb dl_1444 rfl (lv_at hl 1 rfl) ?_
  refine lw_arg C0 hS hl (j := 1) (x := 1) (by omega) hL (by decide) (by decide +kernel) dl_1445 dl_1446 dl_1447 dl_1448 dl_1449 ?_
  obtain ⟨zA, nA, wA, SA, ZA, hA, hcA, hxA, hGA, hqA⟩ := sf_131 (l := l) (D := D) (b0 := s.heap.size) (ad := ad) (Hb := s.heap) (tau := tau) (x0 := (xs (i + 1)).toInt) hxZ hGZ (iI_x (xs (i + 1))) (by omega)
  rw [eI (xs (i + 1))] at hcA
  obtain ⟨⟨zcA, zsA⟩, ⟨rcA, rsA⟩, hrA⟩ := lw_room hxZ hxA hGZ hrZ (by omega) hqA (mx_Ca_le hcA)
  refine W.eq (g2 := F0 m 1450 la ((([.int (xs (i + 1))] : List Value).map (mx_v (tB l D s.heap.size ad s.heap tau).2.1.1)).reverse ++ .ref (mx_rho (tB l D s.heap.size ad s.heap tau).2.1.1 1) :: [])) rfl ?_
  refine mx_Wcallv (B := (tB l D s.heap.size ad s.heap tau)) (ci := 11) (r := cr_11) (n := 1) A dl_1450 me_131 rfl (hxZ.obj (lt83 (GI_n hGZ) rfl) (GI_s hGZ 1 rfl)) (tw lx_5_178 rfl) (tw lx_5_179 rfl) (tw lx_5_177 rfl) hcA rfl hl.1 (by exact Nat.le_of_ble_eq_true rfl) hRZ hLoZ (by decide) (by decide) ⟨by show nZ - 1 + (hA.1 - hZ.1) ≤ 600000; rw [zcA]; exact rcA, by show wZ + (hA.2.1 - hZ.2.1) ≤ 7302250; rw [zsA]; exact rsA⟩ (fun HA locsA hRA hLoA => ?_)
  refine W.cs zcA zsA ?_
  have qA : 0 ≤ ZA 1 1 ∧ ZA 1 1 ≤ 900 := hGA.pr 1 1
  have hS1 := lw_S hRA hLoA
  clear hS
  have hS := hS1
  refine W.eq (g2 := F0 m 1453 la (xI zA :: [])) rfl ?_
  refine lv_pop hx0 hb dl_1453 rfl ?_
  refine lv_aload_n hx0 hb dl_1454 rfl (lv_at hl 2 rfl) ?_
  refine lw_arg C0 hS hl (j := 1) (x := 1) (by omega) hL (by decide) (by decide +kernel) dl_1455 dl_1456 dl_1457 dl_1458 dl_1459 ?_
  obtain ⟨zB, nB, wB, SB, ZB, hB, hcB, hxB, hGB, hqB⟩ := sf_281 (l := l) (D := D) (b0 := s.heap.size) (ad := ad) (Hb := s.heap) (tau := tau) (x0 := (xs (i + 1)).toInt) hxA hGA (iI_x (xs (i + 1))) (by omega)
  rw [eI (xs (i + 1))] at hcB
  obtain ⟨⟨zcB, zsB⟩, ⟨rcB, rsB⟩, hrB⟩ := lw_room hxA hxB hGA hrA (by omega) hqB (mx_Ca_le hcB)
  refine W.eq (g2 := F0 m 1460 la ((([.int (xs (i + 1))] : List Value).map (mx_v (tB l D s.heap.size ad s.heap tau).2.1.1)).reverse ++ .ref (mx_rho (tB l D s.heap.size ad s.heap tau).2.1.1 56) :: [])) rfl ?_
  refine mx_Wcallv (B := (tB l D s.heap.size ad s.heap tau)) (ci := 12) (r := cr_12) (n := 1) A dl_1460 me_281 rfl (hxA.obj (lt83 (GI_n hGA) rfl) (GI_s hGA 56 rfl)) (tw lx_8_124 rfl) (tw lx_8_125 rfl) (tw lx_8_123 rfl) hcB rfl hl.1 (by exact Nat.le_of_ble_eq_true rfl) hRA hLoA (by decide) (by decide) ⟨by show nA - 1 + (hB.1 - hA.1) ≤ 600000; rw [zcB]; exact rcB, by show wA + (hB.2.1 - hA.2.1) ≤ 7302250; rw [zsB]; exact rsB⟩ (fun HB locsB hRB hLoB => ?_)
  refine W.cs zcB zsB ?_
  refine W.eq (g2 := F0 m 1463 la (xI zB :: [])) rfl ?_
  refine lv_pop hx0 hb dl_1463 rfl ?_
  refine lv_goto (tgt := 1513) hx0 hb dl_1464 (by decide) ?_
  exact K HB locsB (nB - 1) wB ⟨nB, wB, SB, ZB, hB, hxB, hGB, hRB, hLoB, hl, ⟨by have := hrB.1; omega, hrB.2⟩, rfl, rfl⟩
set_option maxHeartbeats 4000000 in
set_option maxRecDepth 100000 in
theorem lc_43 (C0 : lw_At p s m meth c b L xs) (hL : L ≤ 3072) (A : mx_Wx (tB l D s.heap.size ad s.heap tau) p s m #[Value.ref b] c code 4 R_law) {i : Nat} (hi : i + 6 ≤ L) {ph : Int} (hph : ph ≤ 10489) (hI : lw_I (tB l D s.heap.size ad s.heap tau) s b i ph H locs la cells slots) (K : ∀ (H : Heap) (locs : List Loc) (cells slots : Nat), lw_I (tB l D s.heap.size ad s.heap tau) s b i (ph + 20) H locs la cells slots → W p l e room_1 s m #[Value.ref b] below meth c H locs cells slots Q (F0 m 1513 la [])) : W p l e room_1 s m #[Value.ref b] below meth c H locs cells slots Q (F0 m 1467 la []) := by
  obtain ⟨hx0, hb, hr, hml, hown, hts, hX, hbl, hlocks, hgv⟩ := id C0
  obtain ⟨nZ, wZ, SZ, ZZ, hZ, hxZ, hGZ, hRZ, hLoZ, hl, hrZ, rfl, rfl⟩ := hI
  have qZ : 0 ≤ ZZ 1 1 ∧ ZZ 1 1 ≤ 900 := hGZ.pr 1 1
  have hS := lw_S hRZ hLoZ
  refine lv_aload_n hx0 hb dl_1467 rfl (lv_at hl 1 rfl) ?_
  refine lw_arg C0 hS hl (j := 1) (x := 1) (by omega) hL (by decide) (by decide +kernel) dl_1468 dl_1469 dl_1470 dl_1471 dl_1472 ?_
  obtain ⟨zA, nA, wA, SA, ZA, hA, hcA, hxA, hGA, hqA⟩ := sf_132 (l := l) (D := D) (b0 := s.heap.size) (ad := ad) (Hb := s.heap) (tau := tau) (x0 := (xs (i + 1)).toInt) hxZ hGZ (iI_x (xs (i + 1))) (by omega)
  rw [eI (xs (i + 1))] at hcA
  obtain ⟨⟨zcA, zsA⟩, ⟨rcA, rsA⟩, hrA⟩ := lw_room hxZ hxA hGZ hrZ (by omega) hqA (mx_Ca_le hcA)
  refine W.eq (g2 := F0 m 1473 la ((([.int (xs (i + 1))] : List Value).map (mx_v (tB l D s.heap.size ad s.heap tau).2.1.1)).reverse ++ .ref (mx_rho (tB l D s.heap.size ad s.heap tau).2.1.1 1) :: [])) rfl ?_
  refine mx_Wcallv (B := (tB l D s.heap.size ad s.heap tau)) (ci := 11) (r := cr_11) (n := 1) A dl_1473 me_132 rfl (hxZ.obj (lt83 (GI_n hGZ) rfl) (GI_s hGZ 1 rfl)) (tw lx_5_182 rfl) (tw lx_5_183 rfl) (tw lx_5_181 rfl) hcA rfl hl.1 (by exact Nat.le_of_ble_eq_true rfl) hRZ hLoZ (by decide) (by decide) ⟨by show nZ - 1 + (hA.1 - hZ.1) ≤ 600000; rw [zcA]; exact rcA, by show wZ + (hA.2.1 - hZ.2.1) ≤ 7302250; rw [zsA]; exact rsA⟩ (fun HA locsA hRA hLoA => ?_)
  refine W.cs zcA zsA ?_
  have qA : 0 ≤ ZA 1 1 ∧ ZA 1 1 ≤ 900 := hGA.pr 1 1
  have hS1 := lw_S hRA hLoA
  clear hS
  have hS := hS1
  refine W.eq (g2 := F0 m 1476 la (xI zA :: [])) rfl ?_
  refine lv_pop hx0 hb dl_1476 rfl ?_
  refine lv_aload_n hx0 hb dl_1477 rfl (lv_at hl 2 rfl) ?_
  refine lw_arg C0 hS hl (j := 1) (x := 1) (by omega) hL (by decide) (by decide +kernel) dl_1478 dl_1479 dl_1480 dl_1481 dl_1482 ?_
  obtain ⟨zB, nB, wB, SB, ZB, hB, hcB, hxB, hGB, hqB⟩ := sf_282 (l := l) (D := D) (b0 := s.heap.size) (ad := ad) (Hb := s.heap) (tau := tau) (x0 := (xs (i + 1)).toInt) hxA hGA (iI_x (xs (i + 1))) (by omega)
  rw [eI (xs (i + 1))] at hcB
  obtain ⟨⟨zcB, zsB⟩, ⟨rcB, rsB⟩, hrB⟩ := lw_room hxA hxB hGA hrA (by omega) hqB (mx_Ca_le hcB)
  refine W.eq (g2 := F0 m 1483 la ((([.int (xs (i + 1))] : List Value).map (mx_v (tB l D s.heap.size ad s.heap tau).2.1.1)).reverse ++ .ref (mx_rho (tB l D s.heap.size ad s.heap tau).2.1.1 56) :: [])) rfl ?_
  refine mx_Wcallv (B := (tB l D s.heap.size ad s.heap tau)) (ci := 12) (r := cr_12) (n := 1) A dl_1483 me_282 rfl (hxA.obj (lt83 (GI_n hGA) rfl) (GI_s hGA 56 rfl)) (tw lx_8_128 rfl) (tw lx_8_129 rfl) (tw lx_8_127 rfl) hcB rfl hl.1 (by exact Nat.le_of_ble_eq_true rfl) hRA hLoA (by decide) (by decide) ⟨by show nA - 1 + (hB.1 - hA.1) ≤ 600000; rw [zcB]; exact rcB, by show wA + (hB.2.1 - hA.2.1) ≤ 7302250; rw [zsB]; exact rsB⟩ (fun HB locsB hRB hLoB => ?_)
  refine W.cs zcB zsB ?_
  refine W.eq (g2 := F0 m 1486 la (xI zB :: [])) rfl ?_
  refine lv_pop hx0 hb dl_1486 rfl ?_
  refine lv_goto (tgt := 1513) hx0 hb dl_1487 (by decide) ?_
  exact K HB locsB (nB - 1) wB ⟨nB, wB, SB, ZB, hB, hxB, hGB, hRB, hLoB, hl, ⟨by have := hrB.1; omega, hrB.2⟩, rfl, rfl⟩
set_option maxHeartbeats 4000000 in
set_option maxRecDepth 100000 in
theorem lc_44 (C0 : lw_At p s m meth c b L xs) (hL : L ≤ 3072) (A : mx_Wx (tB l D s.heap.size ad s.heap tau) p s m #[Value.ref b] c code 4 R_law) {i : Nat} (hi : i + 6 ≤ L) {ph : Int} (hph : ph ≤ 10489) (hI : lw_I (tB l D s.heap.size ad s.heap tau) s b i ph H locs la cells slots) (K : ∀ (H : Heap) (locs : List Loc) (cells slots : Nat), lw_I (tB l D s.heap.size ad s.heap tau) s b i (ph + 20) H locs la cells slots → W p l e room_1 s m #[Value.ref b] below meth c H locs cells slots Q (F0 m 1513 la [])) : W p l e room_1 s m #[Value.ref b] below meth c H locs cells slots Q (F0 m 1490 la []) := by
  obtain ⟨hx0, hb, hr, hml, hown, hts, hX, hbl, hlocks, hgv⟩ := id C0
  obtain ⟨nZ, wZ, SZ, ZZ, hZ, hxZ, hGZ, hRZ, hLoZ, hl, hrZ, rfl, rfl⟩ := hI
  have qZ : 0 ≤ ZZ 1 1 ∧ ZZ 1 1 ≤ 900 := hGZ.pr 1 1
  have hS := lw_S hRZ hLoZ
  refine lv_aload_n hx0 hb dl_1490 rfl (lv_at hl 1 rfl) ?_
  refine lw_arg C0 hS hl (j := 1) (x := 1) (by omega) hL (by decide) (by decide +kernel) dl_1491 dl_1492 dl_1493 dl_1494 dl_1495 ?_
  obtain ⟨zA, nA, wA, SA, ZA, hA, hcA, hxA, hGA, hqA⟩ := sf_133 (l := l) (D := D) (b0 := s.heap.size) (ad := ad) (Hb := s.heap) (tau := tau) (x0 := (xs (i + 1)).toInt) hxZ hGZ (iI_x (xs (i + 1))) (by omega)
  rw [eI (xs (i + 1))] at hcA
  obtain ⟨⟨zcA, zsA⟩, ⟨rcA, rsA⟩, hrA⟩ := lw_room hxZ hxA hGZ hrZ (by omega) hqA (mx_Ca_le hcA)
  refine W.eq (g2 := F0 m 1496 la ((([.int (xs (i + 1))] : List Value).map (mx_v (tB l D s.heap.size ad s.heap tau).2.1.1)).reverse ++ .ref (mx_rho (tB l D s.heap.size ad s.heap tau).2.1.1 1) :: [])) rfl ?_
  refine mx_Wcallv (B := (tB l D s.heap.size ad s.heap tau)) (ci := 11) (r := cr_11) (n := 1) A dl_1496 me_133 rfl (hxZ.obj (lt83 (GI_n hGZ) rfl) (GI_s hGZ 1 rfl)) (tw lx_5_186 rfl) (tw lx_5_187 rfl) (tw lx_5_185 rfl) hcA rfl hl.1 (by exact Nat.le_of_ble_eq_true rfl) hRZ hLoZ (by decide) (by decide) ⟨by show nZ - 1 + (hA.1 - hZ.1) ≤ 600000; rw [zcA]; exact rcA, by show wZ + (hA.2.1 - hZ.2.1) ≤ 7302250; rw [zsA]; exact rsA⟩ (fun HA locsA hRA hLoA => ?_)
  refine W.cs zcA zsA ?_
  have qA : 0 ≤ ZA 1 1 ∧ ZA 1 1 ≤ 900 := hGA.pr 1 1
  have hS1 := lw_S hRA hLoA
  clear hS
  have hS := hS1
  refine W.eq (g2 := F0 m 1499 la (xI zA :: [])) rfl ?_
  refine lv_pop hx0 hb dl_1499 rfl ?_
  refine lv_aload_n hx0 hb dl_1500 rfl (lv_at hl 2 rfl) ?_
  refine lw_arg C0 hS hl (j := 1) (x := 1) (by omega) hL (by decide) (by decide +kernel) dl_1501 dl_1502 dl_1503 dl_1504 dl_1505 ?_
  obtain ⟨zB, nB, wB, SB, ZB, hB, hcB, hxB, hGB, hqB⟩ := sf_283 (l := l) (D := D) (b0 := s.heap.size) (ad := ad) (Hb := s.heap) (tau := tau) (x0 := (xs (i + 1)).toInt) hxA hGA (iI_x (xs (i + 1))) (by omega)
  rw [eI (xs (i + 1))] at hcB
  obtain ⟨⟨zcB, zsB⟩, ⟨rcB, rsB⟩, hrB⟩ := lw_room hxA hxB hGA hrA (by omega) hqB (mx_Ca_le hcB)
  refine W.eq (g2 := F0 m 1506 la ((([.int (xs (i + 1))] : List Value).map (mx_v (tB l D s.heap.size ad s.heap tau).2.1.1)).reverse ++ .ref (mx_rho (tB l D s.heap.size ad s.heap tau).2.1.1 56) :: [])) rfl ?_
  refine mx_Wcallv (B := (tB l D s.heap.size ad s.heap tau)) (ci := 12) (r := cr_12) (n := 1) A dl_1506 me_283 rfl (hxA.obj (lt83 (GI_n hGA) rfl) (GI_s hGA 56 rfl)) (tw lx_8_132 rfl) (tw lx_8_133 rfl) (tw lx_8_131 rfl) hcB rfl hl.1 (by exact Nat.le_of_ble_eq_true rfl) hRA hLoA (by decide) (by decide) ⟨by show nA - 1 + (hB.1 - hA.1) ≤ 600000; rw [zcB]; exact rcB, by show wA + (hB.2.1 - hA.2.1) ≤ 7302250; rw [zsB]; exact rsB⟩ (fun HB locsB hRB hLoB => ?_)
  refine W.cs zcB zsB ?_
  refine W.eq (g2 := F0 m 1509 la (xI zB :: [])) rfl ?_
  refine lv_pop hx0 hb dl_1509 rfl ?_
  refine lv_goto (tgt := 1513) hx0 hb dl_1510 (by decide) ?_
  exact K HB locsB (nB - 1) wB ⟨nB, wB, SB, ZB, hB, hxB, hGB, hRB, hLoB, hl, ⟨by have := hrB.1; omega, hrB.2⟩, rfl, rfl⟩
end LAW
