section LOOP
variable {p : Program} {e : Env} {s : State} {m : MethodId} {below : List Frame} {meth : Method} {c : Code} {l : Launch} {b L : Nat} {xs : Nat → Int32} {D : va_G} {ad : Nat → Nat} {tau : Nat → Int64} {H : Heap} {locs : List Loc} {la : Array Slot} {cells slots : Nat} {Q : State → Prop}

set_option maxHeartbeats 8000000 in
set_option maxRecDepth 100000 in
theorem lw_turn (C0 : lw_At p s m meth c b L xs) (hL : L ≤ 3072) (A : mx_Wx (tB l D s.heap.size ad s.heap tau) p s m #[Value.ref b] c code 4 R_law) {i : Nat} (hi : i + 6 ≤ L) {ph : Int} (hph : ph ≤ 10489) (hI : lw_I (tB l D s.heap.size ad s.heap tau) s b i ph H locs la cells slots) (K : ∀ (H : Heap) (locs : List Loc) (cells slots : Nat), lw_I (tB l D s.heap.size ad s.heap tau) s b i (ph + 20) H locs la cells slots → W p l e room_1 s m #[Value.ref b] below meth c H locs cells slots Q (F0 m 1513 la [])) : W p l e room_1 s m #[Value.ref b] below meth c H locs cells slots Q (F0 m 27 la []) := by
  obtain ⟨hx, hb, hr, hml, hown, hts, hX, hbl, hlocks, hgv⟩ := id C0
  obtain ⟨n, w, S, Z, h, hxx, ⟨hG, hLz⟩, hR, hLo, hl, hq⟩ := id hI
  have hS := lw_S hR hLo
  have hbA : ¬ (fun q : Nat => s.heap.size ≤ q) b := Nat.not_le.mpr hbl
  refine lv_aload_n hx hb dl_27 rfl (lv_at hl 0 rfl) ?_
  refine lv_iload_n hx hb dl_28 rfl (lv_at hl 3 rfl) ?_
  refine va_sld hx hb hX hbl hbA hS (i := nI i) (vp_in_nI (by omega) (by omega)) dl_29 ?_
  refine lv_bipush (v := 63) hx hb dl_30 (by decide) ?_
  refine lv_iand hx hb dl_32 ?_
  obtain ⟨j, hj, hje⟩ := pk_andE (xs (nI i).toNatClampNeg) (m := 63) 6 (by decide +kernel)
  rw [hje]
  match j, hj with
  | 0, _ =>
    refine lv_tableIn (tgt := 228) hx hb dl_33 (by decide +kernel) (by decide +kernel) (off := 195) (by decide +kernel) (by decide) ?_
    exact lc_0 C0 hL A hi hph hI K
  | 1, _ =>
    refine lv_tableIn (tgt := 291) hx hb dl_33 (by decide +kernel) (by decide +kernel) (off := 258) (by decide +kernel) (by decide) ?_
    exact lc_1 C0 hL A hi hph hI K
  | 2, _ =>
    refine lv_tableIn (tgt := 314) hx hb dl_33 (by decide +kernel) (by decide +kernel) (off := 281) (by decide +kernel) (by decide) ?_
    exact lc_2 C0 hL A hi hph hI K
  | 3, _ =>
    refine lv_tableIn (tgt := 337) hx hb dl_33 (by decide +kernel) (by decide +kernel) (off := 304) (by decide +kernel) (by decide) ?_
    exact lc_3 C0 hL A hi hph hI K
  | 4, _ =>
    refine lv_tableIn (tgt := 360) hx hb dl_33 (by decide +kernel) (by decide +kernel) (off := 327) (by decide +kernel) (by decide) ?_
    exact lc_4 C0 hL A hi hph hI K
  | 5, _ =>
    refine lv_tableIn (tgt := 383) hx hb dl_33 (by decide +kernel) (by decide +kernel) (off := 350) (by decide +kernel) (by decide) ?_
    exact lc_5 C0 hL A hi hph hI K
  | 6, _ =>
    refine lv_tableIn (tgt := 416) hx hb dl_33 (by decide +kernel) (by decide +kernel) (off := 383) (by decide +kernel) (by decide) ?_
    exact lc_6 C0 hL A hi hph hI K
  | 7, _ =>
    refine lv_tableIn (tgt := 439) hx hb dl_33 (by decide +kernel) (by decide +kernel) (off := 406) (by decide +kernel) (by decide) ?_
    exact lc_7 C0 hL A hi hph hI K
  | 8, _ =>
    refine lv_tableIn (tgt := 462) hx hb dl_33 (by decide +kernel) (by decide +kernel) (off := 429) (by decide +kernel) (by decide) ?_
    exact lc_8 C0 hL A hi hph hI K
  | 9, _ =>
    refine lv_tableIn (tgt := 495) hx hb dl_33 (by decide +kernel) (by decide +kernel) (off := 462) (by decide +kernel) (by decide) ?_
    exact lc_9 C0 hL A hi hph hI K
  | 10, _ =>
    refine lv_tableIn (tgt := 528) hx hb dl_33 (by decide +kernel) (by decide +kernel) (off := 495) (by decide +kernel) (by decide) ?_
    exact lc_10 C0 hL A hi hph hI K
  | 11, _ =>
    refine lv_tableIn (tgt := 551) hx hb dl_33 (by decide +kernel) (by decide +kernel) (off := 518) (by decide +kernel) (by decide) ?_
    exact lc_11 C0 hL A hi hph hI K
  | 12, _ =>
    refine lv_tableIn (tgt := 574) hx hb dl_33 (by decide +kernel) (by decide +kernel) (off := 541) (by decide +kernel) (by decide) ?_
    exact lc_12 C0 hL A hi hph hI K
  | 13, _ =>
    refine lv_tableIn (tgt := 607) hx hb dl_33 (by decide +kernel) (by decide +kernel) (off := 574) (by decide +kernel) (by decide) ?_
    exact lc_13 C0 hL A hi hph hI K
  | 14, _ =>
    refine lv_tableIn (tgt := 630) hx hb dl_33 (by decide +kernel) (by decide +kernel) (off := 597) (by decide +kernel) (by decide) ?_
    exact lc_14 C0 hL A hi hph hI K
  | 15, _ =>
    refine lv_tableIn (tgt := 663) hx hb dl_33 (by decide +kernel) (by decide +kernel) (off := 630) (by decide +kernel) (by decide) ?_
    exact lc_15 C0 hL A hi hph hI K
  | 16, _ =>
    refine lv_tableIn (tgt := 716) hx hb dl_33 (by decide +kernel) (by decide +kernel) (off := 683) (by decide +kernel) (by decide) ?_
    exact lc_16 C0 hL A hi hph hI K
  | 17, _ =>
    refine lv_tableIn (tgt := 739) hx hb dl_33 (by decide +kernel) (by decide +kernel) (off := 706) (by decide +kernel) (by decide) ?_
    exact lc_17 C0 hL A hi hph hI K
  | 18, _ =>
    refine lv_tableIn (tgt := 762) hx hb dl_33 (by decide +kernel) (by decide +kernel) (off := 729) (by decide +kernel) (by decide) ?_
    exact lc_18 C0 hL A hi hph hI K
  | 19, _ =>
    refine lv_tableIn (tgt := 785) hx hb dl_33 (by decide +kernel) (by decide +kernel) (off := 752) (by decide +kernel) (by decide) ?_
    exact lc_19 C0 hL A hi hph hI K
  | 20, _ =>
    refine lv_tableIn (tgt := 808) hx hb dl_33 (by decide +kernel) (by decide +kernel) (off := 775) (by decide +kernel) (by decide) ?_
    exact lc_20 C0 hL A hi hph hI K
  | 21, _ =>
    refine lv_tableIn (tgt := 841) hx hb dl_33 (by decide +kernel) (by decide +kernel) (off := 808) (by decide +kernel) (by decide) ?_
    exact lc_21 C0 hL A hi hph hI K
  | 22, _ =>
    refine lv_tableIn (tgt := 874) hx hb dl_33 (by decide +kernel) (by decide +kernel) (off := 841) (by decide +kernel) (by decide) ?_
    exact lc_22 C0 hL A hi hph hI K
  | 23, _ =>
    refine lv_tableIn (tgt := 897) hx hb dl_33 (by decide +kernel) (by decide +kernel) (off := 864) (by decide +kernel) (by decide) ?_
    exact lc_23 C0 hL A hi hph hI K
  | 24, _ =>
    refine lv_tableIn (tgt := 910) hx hb dl_33 (by decide +kernel) (by decide +kernel) (off := 877) (by decide +kernel) (by decide) ?_
    exact lc_24 C0 hL A hi hph hI K
  | 25, _ =>
    refine lv_tableIn (tgt := 933) hx hb dl_33 (by decide +kernel) (by decide +kernel) (off := 900) (by decide +kernel) (by decide) ?_
    exact lc_25 C0 hL A hi hph hI K
  | 26, _ =>
    refine lv_tableIn (tgt := 966) hx hb dl_33 (by decide +kernel) (by decide +kernel) (off := 933) (by decide +kernel) (by decide) ?_
    exact lc_26 C0 hL A hi hph hI K
  | 27, _ =>
    refine lv_tableIn (tgt := 979) hx hb dl_33 (by decide +kernel) (by decide +kernel) (off := 946) (by decide +kernel) (by decide) ?_
    exact lc_27 C0 hL A hi hph hI K
  | 28, _ =>
    refine lv_tableIn (tgt := 1002) hx hb dl_33 (by decide +kernel) (by decide +kernel) (off := 969) (by decide +kernel) (by decide) ?_
    exact lc_28 C0 hL A hi hph hI K
  | 29, _ =>
    refine lv_tableIn (tgt := 1015) hx hb dl_33 (by decide +kernel) (by decide +kernel) (off := 982) (by decide +kernel) (by decide) ?_
    exact lc_29 C0 hL A hi hph hI K
  | 30, _ =>
    refine lv_tableIn (tgt := 1038) hx hb dl_33 (by decide +kernel) (by decide +kernel) (off := 1005) (by decide +kernel) (by decide) ?_
    exact lc_30 C0 hL A hi hph hI K
  | 31, _ =>
    refine lv_tableIn (tgt := 1071) hx hb dl_33 (by decide +kernel) (by decide +kernel) (off := 1038) (by decide +kernel) (by decide) ?_
    exact lc_31 C0 hL A hi hph hI K
  | 32, _ =>
    refine lv_tableIn (tgt := 1104) hx hb dl_33 (by decide +kernel) (by decide +kernel) (off := 1071) (by decide +kernel) (by decide) ?_
    exact lc_32 C0 hL A hi hph hI K
  | 33, _ =>
    refine lv_tableIn (tgt := 1127) hx hb dl_33 (by decide +kernel) (by decide +kernel) (off := 1094) (by decide +kernel) (by decide) ?_
    exact lc_33 C0 hL A hi hph hI K
  | 34, _ =>
    refine lv_tableIn (tgt := 1150) hx hb dl_33 (by decide +kernel) (by decide +kernel) (off := 1117) (by decide +kernel) (by decide) ?_
    exact lc_34 C0 hL A hi hph hI K
  | 35, _ =>
    refine lv_tableIn (tgt := 1173) hx hb dl_33 (by decide +kernel) (by decide +kernel) (off := 1140) (by decide +kernel) (by decide) ?_
    exact lc_35 C0 hL A hi hph hI K
  | 36, _ =>
    refine lv_tableIn (tgt := 1196) hx hb dl_33 (by decide +kernel) (by decide +kernel) (off := 1163) (by decide +kernel) (by decide) ?_
    exact lc_36 C0 hL A hi hph hI K
  | 37, _ =>
    refine lv_tableIn (tgt := 1219) hx hb dl_33 (by decide +kernel) (by decide +kernel) (off := 1186) (by decide +kernel) (by decide) ?_
    exact lc_37 C0 hL A hi hph hI K
  | 38, _ =>
    refine lv_tableIn (tgt := 1262) hx hb dl_33 (by decide +kernel) (by decide +kernel) (off := 1229) (by decide +kernel) (by decide) ?_
    exact lc_38 C0 hL A hi hph hI K
  | 39, _ =>
    refine lv_tableIn (tgt := 1295) hx hb dl_33 (by decide +kernel) (by decide +kernel) (off := 1262) (by decide +kernel) (by decide) ?_
    exact lc_39 C0 hL A hi hph hI K
  | 40, _ =>
    refine lv_tableIn (tgt := 1338) hx hb dl_33 (by decide +kernel) (by decide +kernel) (off := 1305) (by decide +kernel) (by decide) ?_
    exact lc_40 C0 hL A hi hph hI K
  | 41, _ =>
    refine lv_tableIn (tgt := 1411) hx hb dl_33 (by decide +kernel) (by decide +kernel) (off := 1378) (by decide +kernel) (by decide) ?_
    exact lc_41 C0 hL A hi hph hI K
  | 42, _ =>
    refine lv_tableIn (tgt := 1444) hx hb dl_33 (by decide +kernel) (by decide +kernel) (off := 1411) (by decide +kernel) (by decide) ?_
    exact lc_42 C0 hL A hi hph hI K
  | 43, _ =>
    refine lv_tableIn (tgt := 1467) hx hb dl_33 (by decide +kernel) (by decide +kernel) (off := 1434) (by decide +kernel) (by decide) ?_
    exact lc_43 C0 hL A hi hph hI K
  | 44, _ =>
    refine lv_tableIn (tgt := 1490) hx hb dl_33 (by decide +kernel) (by decide +kernel) (off := 1457) (by decide +kernel) (by decide) ?_
    exact lc_44 C0 hL A hi hph hI K
  | j + 45, hj =>
    refine lv_tableOut (tgt := 1513) hx hb dl_33 (Or.inr ?_) (by decide) ?_
    · rw [nI_toInt (by omega)]; omega
    · obtain ⟨n, w, S, Z, h, q1, q2, q3, q4, q5, ⟨q6, q7⟩, q8, q9⟩ := hI
      exact K H locs cells slots ⟨n, w, S, Z, h, q1, q2, q3, q4, q5, ⟨by omega, q7⟩, q8, q9⟩
set_option maxHeartbeats 8000000 in
set_option maxRecDepth 100000 in
theorem lw_loop (C0 : lw_At p s m meth c b L xs) (hL : L ≤ 3072) (A : mx_Wx (tB l D s.heap.size ad s.heap tau) p s m #[Value.ref b] c code 4 R_law) : ∀ (r k : Nat) (H : Heap) (locs : List Loc) (la : Array Slot) (cells slots : Nat), L ≤ 6 * k + 5 + 6 * r → 6 * k ≤ L + 5 → lw_I (tB l D s.heap.size ad s.heap tau) s b (6 * k) (249 + 20 * ((k : Nat) : Int)) H locs la cells slots → W p l e room_1 s m #[Value.ref b] below meth c H locs cells slots (lw_Z below #[Value.ref b] s) (F0 m 18 la []) := by
  obtain ⟨hx, hb, hr, hml, hown, hts, hX, hbl, hlocks, hgv⟩ := id C0
  intro r
  induction r with
  | zero =>
    intro k H locs la cells slots h1 h2 hI
    obtain ⟨n, w, S, Z, h, q1, q2, q3, q4, hl, ⟨q6, q7⟩, rfl, rfl⟩ := hI
    have hS := lw_S q3 q4
    have hbA : ¬ (fun q : Nat => s.heap.size ≤ q) b := Nat.not_le.mpr hbl
    have q11 : 0 ≤ Z 1 1 ∧ Z 1 1 ≤ 900 := q2.1.pr 1 1
    refine lv_iload_n hx hb dl_18 rfl (lv_at hl 3 rfl) ?_
    refine lv_aload_n hx hb dl_19 rfl (lv_at hl 0 rfl) ?_
    refine va_slen hx hb hX hbl hbA hS dl_20 ?_
    refine lv_bipush (v := 6) hx hb dl_21 (by decide) ?_
    refine lv_isub hx hb dl_23 ?_
    refine lv_icmp_gt (tgt := 1519) hx hb dl_24 (by decide) (fun _ => ?_) (fun hno => absurd ((lw_cmp (by omega) hL).mpr (by omega)) hno)
    refine lv_iconst (v := 1) hx hb dl_1519 (by decide) ?_
    refine va_forget (fun q hq => hS.2.2 q hq) ?_
    refine W.widen (k := 600000) (n := 7302250) (by omega) (by omega) ?_
    exact lw_ret hx hb hr hlocks dl_1520
  | succ r ih =>
    intro k H locs la cells slots h1 h2 hI
    obtain ⟨n, w, S, Z, h, q1, q2, q3, q4, hl, ⟨q6, q7⟩, e8, e9⟩ := id hI
    have hS := lw_S q3 q4
    have hbA : ¬ (fun q : Nat => s.heap.size ≤ q) b := Nat.not_le.mpr hbl
    have q11 : 0 ≤ Z 1 1 ∧ Z 1 1 ≤ 900 := q2.1.pr 1 1
    refine lv_iload_n hx hb dl_18 rfl (lv_at hl 3 rfl) ?_
    refine lv_aload_n hx hb dl_19 rfl (lv_at hl 0 rfl) ?_
    refine va_slen hx hb hX hbl hbA hS dl_20 ?_
    refine lv_bipush (v := 6) hx hb dl_21 (by decide) ?_
    refine lv_isub hx hb dl_23 ?_
    refine lv_icmp_gt (tgt := 1519) hx hb dl_24 (by decide) (fun _ => ?_) (fun hno => ?_)
    · refine lv_iconst (v := 1) hx hb dl_1519 (by decide) ?_
      refine va_forget (fun q hq => hS.2.2 q hq) ?_
      refine W.widen (k := 600000) (n := 7302250) (by omega) (by omega) ?_
      exact lw_ret hx hb hr hlocks dl_1520
    · have hi : 6 * k + 6 ≤ L := by
        have := mt (lw_cmp (i := 6 * k) (L := L) (by omega) hL).mpr hno
        omega
      refine lw_turn C0 hL A hi (by omega) hI (fun H2 locs2 cells2 slots2 hI2 => ?_)
      obtain ⟨n, w, S, Z, h, q1, q2, q3, q4, hl, ⟨q6, q7⟩, e8, e9⟩ := hI2
      refine lv_iinc (v := nI (6 * k + 6)) (lv' := [(3, .int (nI (6 * k + 6))), (0, .ref b), (1, .ref (mx_rho (tB l D s.heap.size ad s.heap tau).2.1.1 1)), (2, .ref (mx_rho (tB l D s.heap.size ad s.heap tau).2.1.1 56))]) hx hb dl_1513 hl (k := 3) rfl (nI_add (6 * k) 6) (by decide) rfl (fun la2 hl2 => ?_)
      refine lv_goto (tgt := 18) hx hb dl_1516 (by decide) ?_
      exact ih (k + 1) H2 locs2 la2 cells2 slots2 (by omega) (by omega) ⟨n, w, S, Z, h, q1, q2, q3, q4, lv_sub hl2 [1, 2, 3, 0] rfl, ⟨by omega, q7⟩, e8, e9⟩
end LOOP
