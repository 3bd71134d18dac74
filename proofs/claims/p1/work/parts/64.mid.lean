set_option maxHeartbeats 8000000 in
set_option maxRecDepth 100000 in
theorem lw_mid {p : Program} {e : Env} {s : State} {m : MethodId} {below : List Frame} {meth : Method} {c : Code} {l : Launch} {b L : Nat} {xs : Nat → Int32} {D : va_G} {a0 : Nat} {ag : Nat → Int64} {H : Heap} {locs : List Loc} {la : Array Slot} (hL : L ≤ 6) (C0 : lw_At p s m meth c b L xs) (hag : (∀ i, 1 ≤ i → i ≤ 5 → ag i = (xs i).toInt64) ∧ ag 6 = ((xs 1).toInt64 <<< ((32 : Int32).toInt64 &&& 63) ||| ((xs 2).toInt64 &&& 4294967295)) ∧ ag 7 = ((xs 3).toInt64 <<< ((32 : Int32).toInt64 &&& 63) ||| ((xs 4).toInt64 &&& 4294967295))) (A : mx_Wx (tB l D s.heap.size (fun _ => a0) s.heap (mx_tau ag)) p s m #[Value.ref b] c code 4 R_law) (hR : mx_Rp (tB l D s.heap.size (fun _ => a0) s.heap (mx_tau ag)).2.1.1 s h_4 H) (hLo : ∀ q ∈ locs, mx_up (tB l D s.heap.size (fun _ => a0) s.heap (mx_tau ag)).2.1 q.base) (hcx : ∃ fs, mx_cell h_4 1 = some (.inl (11, fs))) (n4 : h_4.1 = 83) (s4 : h_4.2.1 ≤ 1000000) (hl : lv_has la 4 (lw_lv b (mx_rho (tB l D s.heap.size (fun _ => a0) s.heap (mx_tau ag)).2.1.1 1) (mx_rho (tB l D s.heap.size (fun _ => a0) s.heap (mx_tau ag)).2.1.1 56) 0)) : W p l e room_1 s m #[Value.ref b] below meth c H locs 82 h_4.2.1 (lw_Z below #[Value.ref b] s) (F0 m 18 la []) := by
  obtain ⟨hx, hb, hr, hml, hown, hts, hX, hbl, hlocks, hgv⟩ := id C0
  have hS := lw_S hR hLo
  have hbA : ¬ (fun q : Nat => s.heap.size ≤ q) b := Nat.not_le.mpr hbl
  have w1 : (82 : Nat) ≤ 600000 := by decide
  have w2 : h_4.2.1 ≤ 7302250 := Nat.le_trans s4 (by decide)
  refine lv_iload_n hx hb dl_18 rfl (lv_at hl 3 rfl) ?_
  refine lv_aload_n hx hb dl_19 rfl (lv_at hl 0 rfl) ?_
  refine va_slen hx hb hX hbl hbA hS dl_20 ?_
  refine lv_bipush (v := 6) hx hb dl_21 (by decide) ?_
  refine lv_isub hx hb dl_23 ?_
  refine lv_icmp_gt (tgt := 1522) hx hb dl_24 (by decide) (fun _ => ?_) (fun hno => ?_)
  · refine lv_iconst (v := 1) hx hb dl_1522 (by decide) ?_
    refine va_forget (fun q hq => hS.2.2 q hq) ?_
    refine W.widen w1 w2 ?_
    exact lw_ret hx hb hr hlocks dl_1523
  have hL6 : L = 6 := by
    rcases (show L = 0 ∨ L = 1 ∨ L = 2 ∨ L = 3 ∨ L = 4 ∨ L = 5 ∨ L = 6 by omega) with h | h | h | h | h | h | h
    all_goals first | exact h | (subst h; exact absurd (by decide +kernel) hno)
  have hin0 : vp_in 0 L := vp_in_nI (n := 0) (by omega) (by omega)
  refine lv_aload_n hx hb dl_27 rfl (lv_at hl 0 rfl) ?_
  refine lv_iload_n hx hb dl_28 rfl (lv_at hl 3 rfl) ?_
  refine va_sld hx hb hX hbl hbA hS (i := 0) hin0 dl_29 ?_
  refine lv_bipush (v := 63) hx hb dl_30 (by decide) ?_
  refine lv_iand hx hb dl_32 ?_
  obtain ⟨j, hj, hje⟩ := pk_andE (xs (0 : Int32).toNatClampNeg) (m := 63) 6 (by decide +kernel)
  rw [hje]
  match j, hj with
  | 0, _ =>
    obtain ⟨as, has, hlen, hTw⟩ := tw_0 (s := s) (l := l) (D := D) (a0 := a0) hag
    refine lv_tableIn (tgt := 228) hx hb dl_33 (by decide +kernel) (by decide +kernel) (off := 195) (by decide +kernel) (by decide) ?_
    exact lc_0 C0 hL hL6 A hR hLo hcx n4 s4 hl has hlen hTw
  | 1, _ =>
    obtain ⟨as, has, hlen, hTw⟩ := tw_1 (s := s) (l := l) (D := D) (a0 := a0) hag
    refine lv_tableIn (tgt := 291) hx hb dl_33 (by decide +kernel) (by decide +kernel) (off := 258) (by decide +kernel) (by decide) ?_
    exact lc_1 C0 hL hL6 A hR hLo hcx n4 s4 hl has hlen hTw
  | 2, _ =>
    obtain ⟨as, has, hlen, hTw⟩ := tw_2 (s := s) (l := l) (D := D) (a0 := a0) hag
    refine lv_tableIn (tgt := 314) hx hb dl_33 (by decide +kernel) (by decide +kernel) (off := 281) (by decide +kernel) (by decide) ?_
    exact lc_2 C0 hL hL6 A hR hLo hcx n4 s4 hl has hlen hTw
  | 3, _ =>
    obtain ⟨as, has, hlen, hTw⟩ := tw_3 (s := s) (l := l) (D := D) (a0 := a0) hag
    refine lv_tableIn (tgt := 337) hx hb dl_33 (by decide +kernel) (by decide +kernel) (off := 304) (by decide +kernel) (by decide) ?_
    exact lc_3 C0 hL hL6 A hR hLo hcx n4 s4 hl has hlen hTw
  | 4, _ =>
    obtain ⟨as, has, hlen, hTw⟩ := tw_4 (s := s) (l := l) (D := D) (a0 := a0) hag
    refine lv_tableIn (tgt := 360) hx hb dl_33 (by decide +kernel) (by decide +kernel) (off := 327) (by decide +kernel) (by decide) ?_
    exact lc_4 C0 hL hL6 A hR hLo hcx n4 s4 hl has hlen hTw
  | 5, _ =>
    obtain ⟨as, has, hlen, hTw⟩ := tw_5 (s := s) (l := l) (D := D) (a0 := a0) hag
    refine lv_tableIn (tgt := 383) hx hb dl_33 (by decide +kernel) (by decide +kernel) (off := 350) (by decide +kernel) (by decide) ?_
    exact lc_5 C0 hL hL6 A hR hLo hcx n4 s4 hl has hlen hTw
  | 6, _ =>
    obtain ⟨as, has, hlen, hTw⟩ := tw_6 (s := s) (l := l) (D := D) (a0 := a0) hag
    refine lv_tableIn (tgt := 416) hx hb dl_33 (by decide +kernel) (by decide +kernel) (off := 383) (by decide +kernel) (by decide) ?_
    exact lc_6 C0 hL hL6 A hR hLo hcx n4 s4 hl has hlen hTw
  | 7, _ =>
    obtain ⟨as, has, hlen, hTw⟩ := tw_7 (s := s) (l := l) (D := D) (a0 := a0) hag
    refine lv_tableIn (tgt := 439) hx hb dl_33 (by decide +kernel) (by decide +kernel) (off := 406) (by decide +kernel) (by decide) ?_
    exact lc_7 C0 hL hL6 A hR hLo hcx n4 s4 hl has hlen hTw
  | 8, _ =>
    obtain ⟨as, has, hlen, hTw⟩ := tw_8 (s := s) (l := l) (D := D) (a0 := a0) hag
    refine lv_tableIn (tgt := 462) hx hb dl_33 (by decide +kernel) (by decide +kernel) (off := 429) (by decide +kernel) (by decide) ?_
    exact lc_8 C0 hL hL6 A hR hLo hcx n4 s4 hl has hlen hTw
  | 9, _ =>
    obtain ⟨as, has, hlen, hTw⟩ := tw_9 (s := s) (l := l) (D := D) (a0 := a0) hag
    refine lv_tableIn (tgt := 495) hx hb dl_33 (by decide +kernel) (by decide +kernel) (off := 462) (by decide +kernel) (by decide) ?_
    exact lc_9 C0 hL hL6 A hR hLo hcx n4 s4 hl has hlen hTw
  | 10, _ =>
    obtain ⟨as, has, hlen, hTw⟩ := tw_10 (s := s) (l := l) (D := D) (a0 := a0) hag
    refine lv_tableIn (tgt := 528) hx hb dl_33 (by decide +kernel) (by decide +kernel) (off := 495) (by decide +kernel) (by decide) ?_
    exact lc_10 C0 hL hL6 A hR hLo hcx n4 s4 hl has hlen hTw
  | 11, _ =>
    obtain ⟨as, has, hlen, hTw⟩ := tw_11 (s := s) (l := l) (D := D) (a0 := a0) hag
    refine lv_tableIn (tgt := 551) hx hb dl_33 (by decide +kernel) (by decide +kernel) (off := 518) (by decide +kernel) (by decide) ?_
    exact lc_11 C0 hL hL6 A hR hLo hcx n4 s4 hl has hlen hTw
  | 12, _ =>
    obtain ⟨as, has, hlen, hTw⟩ := tw_12 (s := s) (l := l) (D := D) (a0 := a0) hag
    refine lv_tableIn (tgt := 574) hx hb dl_33 (by decide +kernel) (by decide +kernel) (off := 541) (by decide +kernel) (by decide) ?_
    exact lc_12 C0 hL hL6 A hR hLo hcx n4 s4 hl has hlen hTw
  | 13, _ =>
    obtain ⟨as, has, hlen, hTw⟩ := tw_13 (s := s) (l := l) (D := D) (a0 := a0) hag
    refine lv_tableIn (tgt := 607) hx hb dl_33 (by decide +kernel) (by decide +kernel) (off := 574) (by decide +kernel) (by decide) ?_
    exact lc_13 C0 hL hL6 A hR hLo hcx n4 s4 hl has hlen hTw
  | 14, _ =>
    obtain ⟨as, has, hlen, hTw⟩ := tw_14 (s := s) (l := l) (D := D) (a0 := a0) hag
    refine lv_tableIn (tgt := 630) hx hb dl_33 (by decide +kernel) (by decide +kernel) (off := 597) (by decide +kernel) (by decide) ?_
    exact lc_14 C0 hL hL6 A hR hLo hcx n4 s4 hl has hlen hTw
  | 15, _ =>
    obtain ⟨as, has, hlen, hTw⟩ := tw_15 (s := s) (l := l) (D := D) (a0 := a0) hag
    refine lv_tableIn (tgt := 663) hx hb dl_33 (by decide +kernel) (by decide +kernel) (off := 630) (by decide +kernel) (by decide) ?_
    exact lc_15 C0 hL hL6 A hR hLo hcx n4 s4 hl has hlen hTw
  | 16, _ =>
    obtain ⟨as, has, hlen, hTw⟩ := tw_16 (s := s) (l := l) (D := D) (a0 := a0) hag
    refine lv_tableIn (tgt := 716) hx hb dl_33 (by decide +kernel) (by decide +kernel) (off := 683) (by decide +kernel) (by decide) ?_
    exact lc_16 C0 hL hL6 A hR hLo hcx n4 s4 hl has hlen hTw
  | 17, _ =>
    obtain ⟨as, has, hlen, hTw⟩ := tw_17 (s := s) (l := l) (D := D) (a0 := a0) hag
    refine lv_tableIn (tgt := 739) hx hb dl_33 (by decide +kernel) (by decide +kernel) (off := 706) (by decide +kernel) (by decide) ?_
    exact lc_17 C0 hL hL6 A hR hLo hcx n4 s4 hl has hlen hTw
  | 18, _ =>
    obtain ⟨as, has, hlen, hTw⟩ := tw_18 (s := s) (l := l) (D := D) (a0 := a0) hag
    refine lv_tableIn (tgt := 762) hx hb dl_33 (by decide +kernel) (by decide +kernel) (off := 729) (by decide +kernel) (by decide) ?_
    exact lc_18 C0 hL hL6 A hR hLo hcx n4 s4 hl has hlen hTw
  | 19, _ =>
    obtain ⟨as, has, hlen, hTw⟩ := tw_19 (s := s) (l := l) (D := D) (a0 := a0) hag
    refine lv_tableIn (tgt := 785) hx hb dl_33 (by decide +kernel) (by decide +kernel) (off := 752) (by decide +kernel) (by decide) ?_
    exact lc_19 C0 hL hL6 A hR hLo hcx n4 s4 hl has hlen hTw
  | 20, _ =>
    obtain ⟨as, has, hlen, hTw⟩ := tw_20 (s := s) (l := l) (D := D) (a0 := a0) hag
    refine lv_tableIn (tgt := 808) hx hb dl_33 (by decide +kernel) (by decide +kernel) (off := 775) (by decide +kernel) (by decide) ?_
    exact lc_20 C0 hL hL6 A hR hLo hcx n4 s4 hl has hlen hTw
  | 21, _ =>
    obtain ⟨as, has, hlen, hTw⟩ := tw_21 (s := s) (l := l) (D := D) (a0 := a0) hag
    refine lv_tableIn (tgt := 841) hx hb dl_33 (by decide +kernel) (by decide +kernel) (off := 808) (by decide +kernel) (by decide) ?_
    exact lc_21 C0 hL hL6 A hR hLo hcx n4 s4 hl has hlen hTw
  | 22, _ =>
    obtain ⟨as, has, hlen, hTw⟩ := tw_22 (s := s) (l := l) (D := D) (a0 := a0) hag
    refine lv_tableIn (tgt := 875) hx hb dl_33 (by decide +kernel) (by decide +kernel) (off := 842) (by decide +kernel) (by decide) ?_
    exact lc_22 C0 hL hL6 A hR hLo hcx n4 s4 hl has hlen hTw
  | 23, _ =>
    obtain ⟨as, has, hlen, hTw⟩ := tw_23 (s := s) (l := l) (D := D) (a0 := a0) hag
    refine lv_tableIn (tgt := 898) hx hb dl_33 (by decide +kernel) (by decide +kernel) (off := 865) (by decide +kernel) (by decide) ?_
    exact lc_23 C0 hL hL6 A hR hLo hcx n4 s4 hl has hlen hTw
  | 24, _ =>
    obtain ⟨as, has, hlen, hTw⟩ := tw_24 (s := s) (l := l) (D := D) (a0 := a0) hag
    refine lv_tableIn (tgt := 911) hx hb dl_33 (by decide +kernel) (by decide +kernel) (off := 878) (by decide +kernel) (by decide) ?_
    exact lc_24 C0 hL hL6 A hR hLo hcx n4 s4 hl has hlen hTw
  | 25, _ =>
    obtain ⟨as, has, hlen, hTw⟩ := tw_25 (s := s) (l := l) (D := D) (a0 := a0) hag
    refine lv_tableIn (tgt := 934) hx hb dl_33 (by decide +kernel) (by decide +kernel) (off := 901) (by decide +kernel) (by decide) ?_
    exact lc_25 C0 hL hL6 A hR hLo hcx n4 s4 hl has hlen hTw
  | 26, _ =>
    obtain ⟨as, has, hlen, hTw⟩ := tw_26 (s := s) (l := l) (D := D) (a0 := a0) hag
    refine lv_tableIn (tgt := 967) hx hb dl_33 (by decide +kernel) (by decide +kernel) (off := 934) (by decide +kernel) (by decide) ?_
    exact lc_26 C0 hL hL6 A hR hLo hcx n4 s4 hl has hlen hTw
  | 27, _ =>
    obtain ⟨as, has, hlen, hTw⟩ := tw_27 (s := s) (l := l) (D := D) (a0 := a0) hag
    refine lv_tableIn (tgt := 980) hx hb dl_33 (by decide +kernel) (by decide +kernel) (off := 947) (by decide +kernel) (by decide) ?_
    exact lc_27 C0 hL hL6 A hR hLo hcx n4 s4 hl has hlen hTw
  | 28, _ =>
    obtain ⟨as, has, hlen, hTw⟩ := tw_28 (s := s) (l := l) (D := D) (a0 := a0) hag
    refine lv_tableIn (tgt := 1003) hx hb dl_33 (by decide +kernel) (by decide +kernel) (off := 970) (by decide +kernel) (by decide) ?_
    exact lc_28 C0 hL hL6 A hR hLo hcx n4 s4 hl has hlen hTw
  | 29, _ =>
    obtain ⟨as, has, hlen, hTw⟩ := tw_29 (s := s) (l := l) (D := D) (a0 := a0) hag
    refine lv_tableIn (tgt := 1016) hx hb dl_33 (by decide +kernel) (by decide +kernel) (off := 983) (by decide +kernel) (by decide) ?_
    exact lc_29 C0 hL hL6 A hR hLo hcx n4 s4 hl has hlen hTw
  | 30, _ =>
    obtain ⟨as, has, hlen, hTw⟩ := tw_30 (s := s) (l := l) (D := D) (a0 := a0) hag
    refine lv_tableIn (tgt := 1040) hx hb dl_33 (by decide +kernel) (by decide +kernel) (off := 1007) (by decide +kernel) (by decide) ?_
    exact lc_30 C0 hL hL6 A hR hLo hcx n4 s4 hl has hlen hTw
  | 31, _ =>
    obtain ⟨as, has, hlen, hTw⟩ := tw_31 (s := s) (l := l) (D := D) (a0 := a0) hag
    refine lv_tableIn (tgt := 1073) hx hb dl_33 (by decide +kernel) (by decide +kernel) (off := 1040) (by decide +kernel) (by decide) ?_
    exact lc_31 C0 hL hL6 A hR hLo hcx n4 s4 hl has hlen hTw
  | 32, _ =>
    obtain ⟨as, has, hlen, hTw⟩ := tw_32 (s := s) (l := l) (D := D) (a0 := a0) hag
    refine lv_tableIn (tgt := 1106) hx hb dl_33 (by decide +kernel) (by decide +kernel) (off := 1073) (by decide +kernel) (by decide) ?_
    exact lc_32 C0 hL hL6 A hR hLo hcx n4 s4 hl has hlen hTw
  | 33, _ =>
    obtain ⟨as, has, hlen, hTw⟩ := tw_33 (s := s) (l := l) (D := D) (a0 := a0) hag
    refine lv_tableIn (tgt := 1129) hx hb dl_33 (by decide +kernel) (by decide +kernel) (off := 1096) (by decide +kernel) (by decide) ?_
    exact lc_33 C0 hL hL6 A hR hLo hcx n4 s4 hl has hlen hTw
  | 34, _ =>
    obtain ⟨as, has, hlen, hTw⟩ := tw_34 (s := s) (l := l) (D := D) (a0 := a0) hag
    refine lv_tableIn (tgt := 1152) hx hb dl_33 (by decide +kernel) (by decide +kernel) (off := 1119) (by decide +kernel) (by decide) ?_
    exact lc_34 C0 hL hL6 A hR hLo hcx n4 s4 hl has hlen hTw
  | 35, _ =>
    obtain ⟨as, has, hlen, hTw⟩ := tw_35 (s := s) (l := l) (D := D) (a0 := a0) hag
    refine lv_tableIn (tgt := 1175) hx hb dl_33 (by decide +kernel) (by decide +kernel) (off := 1142) (by decide +kernel) (by decide) ?_
    exact lc_35 C0 hL hL6 A hR hLo hcx n4 s4 hl has hlen hTw
  | 36, _ =>
    obtain ⟨as, has, hlen, hTw⟩ := tw_36 (s := s) (l := l) (D := D) (a0 := a0) hag
    refine lv_tableIn (tgt := 1198) hx hb dl_33 (by decide +kernel) (by decide +kernel) (off := 1165) (by decide +kernel) (by decide) ?_
    exact lc_36 C0 hL hL6 A hR hLo hcx n4 s4 hl has hlen hTw
  | 37, _ =>
    obtain ⟨as, has, hlen, hTw⟩ := tw_37 (s := s) (l := l) (D := D) (a0 := a0) hag
    refine lv_tableIn (tgt := 1221) hx hb dl_33 (by decide +kernel) (by decide +kernel) (off := 1188) (by decide +kernel) (by decide) ?_
    exact lc_37 C0 hL hL6 A hR hLo hcx n4 s4 hl has hlen hTw
  | 38, _ =>
    obtain ⟨as, has, hlen, hTw⟩ := tw_38 (s := s) (l := l) (D := D) (a0 := a0) hag
    refine lv_tableIn (tgt := 1264) hx hb dl_33 (by decide +kernel) (by decide +kernel) (off := 1231) (by decide +kernel) (by decide) ?_
    exact lc_38 C0 hL hL6 A hR hLo hcx n4 s4 hl has hlen hTw
  | 39, _ =>
    obtain ⟨as, has, hlen, hTw⟩ := tw_39 (s := s) (l := l) (D := D) (a0 := a0) hag
    refine lv_tableIn (tgt := 1297) hx hb dl_33 (by decide +kernel) (by decide +kernel) (off := 1264) (by decide +kernel) (by decide) ?_
    exact lc_39 C0 hL hL6 A hR hLo hcx n4 s4 hl has hlen hTw
  | 40, _ =>
    obtain ⟨as, has, hlen, hTw⟩ := tw_40 (s := s) (l := l) (D := D) (a0 := a0) hag
    refine lv_tableIn (tgt := 1340) hx hb dl_33 (by decide +kernel) (by decide +kernel) (off := 1307) (by decide +kernel) (by decide) ?_
    exact lc_40 C0 hL hL6 A hR hLo hcx n4 s4 hl has hlen hTw
  | 41, _ =>
    obtain ⟨as, has, hlen, hTw⟩ := tw_41 (s := s) (l := l) (D := D) (a0 := a0) hag
    refine lv_tableIn (tgt := 1414) hx hb dl_33 (by decide +kernel) (by decide +kernel) (off := 1381) (by decide +kernel) (by decide) ?_
    exact lc_41 C0 hL hL6 A hR hLo hcx n4 s4 hl has hlen hTw
  | 42, _ =>
    obtain ⟨as, has, hlen, hTw⟩ := tw_42 (s := s) (l := l) (D := D) (a0 := a0) hag
    refine lv_tableIn (tgt := 1447) hx hb dl_33 (by decide +kernel) (by decide +kernel) (off := 1414) (by decide +kernel) (by decide) ?_
    exact lc_42 C0 hL hL6 A hR hLo hcx n4 s4 hl has hlen hTw
  | 43, _ =>
    obtain ⟨as, has, hlen, hTw⟩ := tw_43 (s := s) (l := l) (D := D) (a0 := a0) hag
    refine lv_tableIn (tgt := 1470) hx hb dl_33 (by decide +kernel) (by decide +kernel) (off := 1437) (by decide +kernel) (by decide) ?_
    exact lc_43 C0 hL hL6 A hR hLo hcx n4 s4 hl has hlen hTw
  | 44, _ =>
    obtain ⟨as, has, hlen, hTw⟩ := tw_44 (s := s) (l := l) (D := D) (a0 := a0) hag
    refine lv_tableIn (tgt := 1493) hx hb dl_33 (by decide +kernel) (by decide +kernel) (off := 1460) (by decide +kernel) (by decide) ?_
    exact lc_44 C0 hL hL6 A hR hLo hcx n4 s4 hl has hlen hTw
  | j + 45, hj =>
    refine lv_tableOut (tgt := 1516) hx hb dl_33 (Or.inr ?_) (by decide) ?_
    · rw [nI_toInt (by omega)]; omega
    · exact lw_end C0 hL6 hS hl w1 w2
