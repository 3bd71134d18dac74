section LAW
variable {p : Program} {e : Env} {s : State} {m : MethodId} {below : List Frame} {meth : Method} {c : Code} {l : Launch} {b L : Nat} {xs : Nat → Int32} {D : va_G} {ad : Nat → Nat} {tau : Nat → Int64} {H : Heap} {locs : List Loc} {la : Array Slot} {cells slots : Nat} {Q : State → Prop}
set_option maxHeartbeats 4000000 in
set_option maxRecDepth 100000 in
theorem lc_23 (C0 : lw_At p s m meth c b L xs) (hL : L ≤ 3072) (A : mx_Wx (tB l D s.heap.size ad s.heap tau) p s m #[Value.ref b] c code 4 R_law) {i : Nat} (hi : i + 6 ≤ L) {ph : Int} (hph : ph ≤ 10489) (hI : lw_I (tB l D s.heap.size ad s.heap tau) s b i ph H locs la cells slots) (K : ∀ (H : Heap) (locs : List Loc) (cells slots : Nat), lw_I (tB l D s.heap.size ad s.heap tau) s b i (ph + 20) H locs la cells slots → W p l e room_1 s m #[Value.ref b] below meth c H locs cells slots Q (F0 m 1513 la [])) : W p l e room_1 s m #[Value.ref b] below meth c H locs cells slots Q (F0 m 897 la []) := by
  obtain ⟨hx0, hb, hr, hml, hown, hts, hX, hbl, hlocks, hgv⟩ := id C0
  obtain ⟨nZ, wZ, SZ, ZZ, hZ, hxZ, ⟨hGZ, hLZ⟩, hRZ, hLoZ, hl, hrZ, rfl, rfl⟩ := hI
  have qZ : 0 ≤ ZZ 1 1 ∧ ZZ 1 1 ≤ 900 := hGZ.pr 1 1
  have hS := lw_S hRZ hLoZ
  refine lv_aload_n hx0 hb dl_897 rfl (lv_at hl 1 rfl) ?_
  obtain ⟨zA, nA, wA, SA, ZA, hA, hcA, hxA, hGA, hqA, heA1, heA2, heA3, heA4⟩ := sf_112 (l := l) (D := D) (b0 := s.heap.size) (ad := ad) (Hb := s.heap) (tau := tau) hxZ hGZ (by omega)
  obtain ⟨⟨zcA, zsA⟩, ⟨rcA, rsA⟩, hrA⟩ := lw_room hxZ hxA hGZ hrZ (by omega) hqA (mx_Ca_le hcA)
  refine W.eq (g2 := F0 m 898 la ((([] : List Value).map (mx_v (tB l D s.heap.size ad s.heap tau).2.1.1)).reverse ++ .ref (mx_rho (tB l D s.heap.size ad s.heap tau).2.1.1 1) :: [])) rfl ?_
  refine mx_Wcallv (B := (tB l D s.heap.size ad s.heap tau)) (ci := 11) (r := cr_11) (n := 0) A dl_898 me_112 rfl (hxZ.obj (lt83 (GI_n hGZ) rfl) (GI_s hGZ 1 rfl)) (tw lx_4_238 rfl) (tw lx_4_239 rfl) (tw lx_4_237 rfl) hcA rfl hl.1 (by exact Nat.le_of_ble_eq_true rfl) hRZ hLoZ (by decide) (by decide) ⟨by show nZ - 1 + (hA.1 - hZ.1) ≤ 600000; rw [zcA]; exact rcA, by show _ + (hA.2.1 - hZ.2.1) ≤ 7302250; rw [zsA]; exact rsA⟩ (fun HA locsA hRA hLoA => ?_)
  refine W.cs zcA zsA ?_
  have qA : 0 ≤ ZA 1 1 ∧ ZA 1 1 ≤ 900 := hGA.pr 1 1
  have hS1 := lw_S hRA hLoA
  clear hS
  have hS := hS1
  refine W.eq (g2 := F0 m 901 la (xI zA :: [])) rfl ?_
  refine lv_pop hx0 hb dl_901 rfl ?_
  refine lv_aload_n hx0 hb dl_902 rfl (lv_at hl 2 rfl) ?_
  obtain ⟨zB, nB, wB, SB, ZB, hB, hcB, hxB, hGB, hqB, heB1, heB2, heB3, heB4⟩ := sf_248 (l := l) (D := D) (b0 := s.heap.size) (ad := ad) (Hb := s.heap) (tau := tau) hxA hGA (by omega)
  obtain ⟨⟨zcB, zsB⟩, ⟨rcB, rsB⟩, hrB⟩ := lw_room hxA hxB hGA hrA (by omega) hqB (mx_Ca_le hcB)
  refine W.eq (g2 := F0 m 903 la ((([] : List Value).map (mx_v (tB l D s.heap.size ad s.heap tau).2.1.1)).reverse ++ .ref (mx_rho (tB l D s.heap.size ad s.heap tau).2.1.1 56) :: [])) rfl ?_
  refine mx_Wcallv (B := (tB l D s.heap.size ad s.heap tau)) (ci := 12) (r := cr_12) (n := 0) A dl_903 me_248 rfl (hxA.obj (lt83 (GI_n hGA) rfl) (GI_s hGA 56 rfl)) (tw lx_7_229 rfl) (tw lx_7_230 rfl) (tw lx_7_228 rfl) hcB rfl hl.1 (by exact Nat.le_of_ble_eq_true rfl) hRA hLoA (by decide) (by decide) ⟨by show nA - 1 + (hB.1 - hA.1) ≤ 600000; rw [zcB]; exact rcB, by show _ + (hB.2.1 - hA.2.1) ≤ 7302250; rw [zsB]; exact rsB⟩ (fun HB locsB hRB hLoB => ?_)
  refine W.cs zcB zsB ?_
  have hLB1 : RL1 ZB := RL1_rv heB1 (RL1_rv heA1 hLZ.1)
  have hLB2 : RL2 ZB := RL2_rv heB2 (RL2_rv heA2 hLZ.2.1)
  have hLB3 : RL3 ZB := RL3_rv heB3 (RL3_rv heA3 hLZ.2.2.1)
  have hLB4 : RL4 ZB := RL4_rv hGA heB4 (RL4_rv hGZ heA4 hLZ.2.2.2)
  have hLB : RL ZB := ⟨hLB1, hLB2, hLB3, hLB4⟩
  refine W.eq (g2 := F0 m 906 la (xI zB :: [])) rfl ?_
  refine lv_pop hx0 hb dl_906 rfl ?_
  refine lv_goto (tgt := 1513) hx0 hb dl_907 (by decide) ?_
  exact K HB locsB (nB - 1) wB ⟨nB, wB, SB, ZB, hB, hxB, ⟨hGB, hLB⟩, hRB, hLoB, hl, ⟨by have := hrB.1; omega, hrB.2⟩, rfl, rfl⟩
set_option maxHeartbeats 4000000 in
set_option maxRecDepth 100000 in
theorem lc_24 (C0 : lw_At p s m meth c b L xs) (hL : L ≤ 3072) (A : mx_Wx (tB l D s.heap.size ad s.heap tau) p s m #[Value.ref b] c code 4 R_law) {i : Nat} (hi : i + 6 ≤ L) {ph : Int} (hph : ph ≤ 10489) (hI : lw_I (tB l D s.heap.size ad s.heap tau) s b i ph H locs la cells slots) (K : ∀ (H : Heap) (locs : List Loc) (cells slots : Nat), lw_I (tB l D s.heap.size ad s.heap tau) s b i (ph + 20) H locs la cells slots → W p l e room_1 s m #[Value.ref b] below meth c H locs cells slots Q (F0 m 1513 la [])) : W p l e room_1 s m #[Value.ref b] below meth c H locs cells slots Q (F0 m 910 la []) := by
  obtain ⟨hx0, hb, hr, hml, hown, hts, hX, hbl, hlocks, hgv⟩ := id C0
  obtain ⟨nZ, wZ, SZ, ZZ, hZ, hxZ, ⟨hGZ, hLZ⟩, hRZ, hLoZ, hl, hrZ, rfl, rfl⟩ := hI
  have qZ : 0 ≤ ZZ 1 1 ∧ ZZ 1 1 ≤ 900 := hGZ.pr 1 1
  have hS := lw_S hRZ hLoZ
  refine lv_aload_n hx0 hb dl_910 rfl (lv_at hl 1 rfl) ?_
  refine lw_arg C0 hS hl (j := 1) (x := 1) (by omega) hL (by decide) (by decide +kernel) dl_911 dl_912 dl_913 dl_914 dl_915 ?_
  obtain ⟨zA, nA, wA, SA, ZA, hA, hcA, hxA, hGA, hqA, heA1, heA2, heA3, heA4⟩ := sf_113 (l := l) (D := D) (b0 := s.heap.size) (ad := ad) (Hb := s.heap) (tau := tau) (x0 := (xs (i + 1)).toInt) hxZ hGZ (iI_x (xs (i + 1))) (by omega)
  rw [eI (xs (i + 1))] at hcA
  obtain ⟨⟨zcA, zsA⟩, ⟨rcA, rsA⟩, hrA⟩ := lw_room hxZ hxA hGZ hrZ (by omega) hqA (mx_Ca_le hcA)
  refine W.eq (g2 := F0 m 916 la ((([.int (xs (i + 1))] : List Value).map (mx_v (tB l D s.heap.size ad s.heap tau).2.1.1)).reverse ++ .ref (mx_rho (tB l D s.heap.size ad s.heap tau).2.1.1 1) :: [])) rfl ?_
  refine mx_Wcallv (B := (tB l D s.heap.size ad s.heap tau)) (ci := 11) (r := cr_11) (n := 1) A dl_916 me_113 rfl (hxZ.obj (lt83 (GI_n hGZ) rfl) (GI_s hGZ 1 rfl)) (tw lx_5_2 rfl) (tw lx_5_3 rfl) (tw lx_5_1 rfl) hcA rfl hl.1 (by exact Nat.le_of_ble_eq_true rfl) hRZ hLoZ (by decide) (by decide) ⟨by show nZ - 1 + (hA.1 - hZ.1) ≤ 600000; rw [zcA]; exact rcA, by show _ + (hA.2.1 - hZ.2.1) ≤ 7302250; rw [zsA]; exact rsA⟩ (fun HA locsA hRA hLoA => ?_)
  refine W.cs zcA zsA ?_
  have qA : 0 ≤ ZA 1 1 ∧ ZA 1 1 ≤ 900 := hGA.pr 1 1
  have hS1 := lw_S hRA hLoA
  clear hS
  have hS := hS1
  refine W.eq (g2 := F0 m 919 la (xI zA :: [])) rfl ?_
  refine lv_pop hx0 hb dl_919 rfl ?_
  refine lv_aload_n hx0 hb dl_920 rfl (lv_at hl 2 rfl) ?_
  refine lw_arg C0 hS hl (j := 1) (x := 1) (by omega) hL (by decide) (by decide +kernel) dl_921 dl_922 dl_923 dl_924 dl_925 ?_
  obtain ⟨zB, nB, wB, SB, ZB, hB, hcB, hxB, hGB, hqB, heB1, heB2, heB3, heB4⟩ := sf_249 (l := l) (D := D) (b0 := s.heap.size) (ad := ad) (Hb := s.heap) (tau := tau) (x0 := (xs (i + 1)).toInt) hxA hGA (RL2_rv heA2 hLZ.2.1) (iI_x (xs (i + 1))) (by omega)
  rw [eI (xs (i + 1))] at hcB
  obtain ⟨⟨zcB, zsB⟩, ⟨rcB, rsB⟩, hrB⟩ := lw_room hxA hxB hGA hrA (by omega) hqB (mx_Ca_le hcB)
  refine W.eq (g2 := F0 m 926 la ((([.int (xs (i + 1))] : List Value).map (mx_v (tB l D s.heap.size ad s.heap tau).2.1.1)).reverse ++ .ref (mx_rho (tB l D s.heap.size ad s.heap tau).2.1.1 56) :: [])) rfl ?_
  refine mx_Wcallv (B := (tB l D s.heap.size ad s.heap tau)) (ci := 12) (r := cr_12) (n := 1) A dl_926 me_249 rfl (hxA.obj (lt83 (GI_n hGA) rfl) (GI_s hGA 56 rfl)) (tw lx_7_233 rfl) (tw lx_7_234 rfl) (tw lx_7_232 rfl) hcB rfl hl.1 (by exact Nat.le_of_ble_eq_true rfl) hRA hLoA (by decide) (by decide) ⟨by show nA - 1 + (hB.1 - hA.1) ≤ 600000; rw [zcB]; exact rcB, by show _ + (hB.2.1 - hA.2.1) ≤ 7302250; rw [zsB]; exact rsB⟩ (fun HB locsB hRB hLoB => ?_)
  refine W.cs zcB zsB ?_
  have hLB1 : RL1 ZB := RL1_rv heB1 (RL1_rv heA1 hLZ.1)
  have hLB2 : RL2 ZB := RL2_rv heB2 (RL2_rv heA2 hLZ.2.1)
  have hLB3 : RL3 ZB := RL3_rv heB3 (RL3_rv heA3 hLZ.2.2.1)
  have hLB4 : RL4 ZB := RL4_rv hGA heB4 (RL4_rv hGZ heA4 hLZ.2.2.2)
  have hLB : RL ZB := ⟨hLB1, hLB2, hLB3, hLB4⟩
  refine W.eq (g2 := F0 m 929 la (xI zB :: [])) rfl ?_
  refine lv_pop hx0 hb dl_929 rfl ?_
  refine lv_goto (tgt := 1513) hx0 hb dl_930 (by decide) ?_
  exact K HB locsB (nB - 1) wB ⟨nB, wB, SB, ZB, hB, hxB, ⟨hGB, hLB⟩, hRB, hLoB, hl, ⟨by have := hrB.1; omega, hrB.2⟩, rfl, rfl⟩
set_option maxHeartbeats 4000000 in
set_option maxRecDepth 100000 in
theorem lc_25 (C0 : lw_At p s m meth c b L xs) (hL : L ≤ 3072) (A : mx_Wx (tB l D s.heap.size ad s.heap tau) p s m #[Value.ref b] c code 4 R_law) {i : Nat} (hi : i + 6 ≤ L) {ph : Int} (hph : ph ≤ 10489) (hI : lw_I (tB l D s.heap.size ad s.heap tau) s b i ph H locs la cells slots) (K : ∀ (H : Heap) (locs : List Loc) (cells slots : Nat), lw_I (tB l D s.heap.size ad s.heap tau) s b i (ph + 20) H locs la cells slots → W p l e room_1 s m #[Value.ref b] below meth c H locs cells slots Q (F0 m 1513 la [])) : W p l e room_1 s m #[Value.ref b] below meth c H locs cells slots Q (F0 m 933 la []) := by
  obtain ⟨hx0, hb, hr, hml, hown, hts, hX, hbl, hlocks, hgv⟩ := id C0
  obtain ⟨nZ, wZ, SZ, ZZ, hZ, hxZ, ⟨hGZ, hLZ⟩, hRZ, hLoZ, hl, hrZ, rfl, rfl⟩ := hI
  have qZ : 0 ≤ ZZ 1 1 ∧ ZZ 1 1 ≤ 900 := hGZ.pr 1 1
  have hS := lw_S hRZ hLoZ
  refine lv_aload_n hx0 hb dl_933 rfl (lv_at hl 1 rfl) ?_
  refine lw_arg C0 hS hl (j := 1) (x := 1) (by omega) hL (by decide) (by decide +kernel) dl_934 dl_935 dl_936 dl_937 dl_938 ?_
  refine lw_arg C0 hS hl (j := 2) (x := 2) (by omega) hL (by decide) (by decide +kernel) dl_939 dl_940 dl_941 dl_942 dl_943 ?_
  obtain ⟨zA, nA, wA, SA, ZA, hA, hcA, hxA, hGA, hqA, heA1, heA2, heA3, heA4⟩ := sf_114 (l := l) (D := D) (b0 := s.heap.size) (ad := ad) (Hb := s.heap) (tau := tau) (x0 := (xs (i + 1)).toInt) (x1 := (xs (i + 2)).toInt) hxZ hGZ hLZ.2.1 (iI_x (xs (i + 1))) (iI_x (xs (i + 2))) (by omega)
  rw [eI (xs (i + 1)), eI (xs (i + 2))] at hcA
  obtain ⟨⟨zcA, zsA⟩, ⟨rcA, rsA⟩, hrA⟩ := lw_room hxZ hxA hGZ hrZ (by omega) hqA (mx_Ca_le hcA)
  refine W.eq (g2 := F0 m 944 la ((([.int (xs (i + 1)), .int (xs (i + 2))] : List Value).map (mx_v (tB l D s.heap.size ad s.heap tau).2.1.1)).reverse ++ .ref (mx_rho (tB l D s.heap.size ad s.heap tau).2.1.1 1) :: [])) rfl ?_
  refine mx_Wcallv (B := (tB l D s.heap.size ad s.heap tau)) (ci := 11) (r := cr_11) (n := 2) A dl_944 me_114 rfl (hxZ.obj (lt83 (GI_n hGZ) rfl) (GI_s hGZ 1 rfl)) (tw lx_5_6 rfl) (tw lx_5_7 rfl) (tw lx_5_5 rfl) hcA rfl hl.1 (by exact Nat.le_of_ble_eq_true rfl) hRZ hLoZ (by decide) (by decide) ⟨by show nZ - 1 + (hA.1 - hZ.1) ≤ 600000; rw [zcA]; exact rcA, by show _ + (hA.2.1 - hZ.2.1) ≤ 7302250; rw [zsA]; exact rsA⟩ (fun HA locsA hRA hLoA => ?_)
  refine W.cs zcA zsA ?_
  have qA : 0 ≤ ZA 1 1 ∧ ZA 1 1 ≤ 900 := hGA.pr 1 1
  have hS1 := lw_S hRA hLoA
  clear hS
  have hS := hS1
  refine W.eq (g2 := F0 m 947 la (xI zA :: [])) rfl ?_
  refine lv_pop hx0 hb dl_947 rfl ?_
  refine lv_aload_n hx0 hb dl_948 rfl (lv_at hl 2 rfl) ?_
  refine lw_arg C0 hS hl (j := 1) (x := 1) (by omega) hL (by decide) (by decide +kernel) dl_949 dl_950 dl_951 dl_952 dl_953 ?_
  refine lw_arg C0 hS hl (j := 2) (x := 2) (by omega) hL (by decide) (by decide +kernel) dl_954 dl_955 dl_956 dl_957 dl_958 ?_
  obtain ⟨zB, nB, wB, SB, ZB, hB, hcB, hxB, hGB, hqB, heB1, heB2, heB3, heB4⟩ := sf_250 (l := l) (D := D) (b0 := s.heap.size) (ad := ad) (Hb := s.heap) (tau := tau) (x0 := (xs (i + 1)).toInt) (x1 := (xs (i + 2)).toInt) hxA hGA (RL2_rv heA2 hLZ.2.1) (iI_x (xs (i + 1))) (iI_x (xs (i + 2))) (by omega)
  rw [eI (xs (i + 1)), eI (xs (i + 2))] at hcB
  obtain ⟨⟨zcB, zsB⟩, ⟨rcB, rsB⟩, hrB⟩ := lw_room hxA hxB hGA hrA (by omega) hqB (mx_Ca_le hcB)
  refine W.eq (g2 := F0 m 959 la ((([.int (xs (i + 1)), .int (xs (i + 2))] : List Value).map (mx_v (tB l D s.heap.size ad s.heap tau).2.1.1)).reverse ++ .ref (mx_rho (tB l D s.heap.size ad s.heap tau).2.1.1 56) :: [])) rfl ?_
  refine mx_Wcallv (B := (tB l D s.heap.size ad s.heap tau)) (ci := 12) (r := cr_12) (n := 2) A dl_959 me_250 rfl (hxA.obj (lt83 (GI_n hGA) rfl) (GI_s hGA 56 rfl)) (tw lx_7_237 rfl) (tw lx_7_238 rfl) (tw lx_7_236 rfl) hcB rfl hl.1 (by exact Nat.le_of_ble_eq_true rfl) hRA hLoA (by decide) (by decide) ⟨by show nA - 1 + (hB.1 - hA.1) ≤ 600000; rw [zcB]; exact rcB, by show _ + (hB.2.1 - hA.2.1) ≤ 7302250; rw [zsB]; exact rsB⟩ (fun HB locsB hRB hLoB => ?_)
  refine W.cs zcB zsB ?_
  have hLB1 : RL1 ZB := RL1_rv heB1 (RL1_rv heA1 hLZ.1)
  have hLB2 : RL2 ZB := RL2_rv heB2 (RL2_rv heA2 hLZ.2.1)
  have hLB3 : RL3 ZB := RL3_rv heB3 (RL3_rv heA3 hLZ.2.2.1)
  have hLB4 : RL4 ZB := RL4_rv hGA heB4 (RL4_rv hGZ heA4 hLZ.2.2.2)
  have hLB : RL ZB := ⟨hLB1, hLB2, hLB3, hLB4⟩
  refine W.eq (g2 := F0 m 962 la (xI zB :: [])) rfl ?_
  refine lv_pop hx0 hb dl_962 rfl ?_
  refine lv_goto (tgt := 1513) hx0 hb dl_963 (by decide) ?_
  exact K HB locsB (nB - 1) wB ⟨nB, wB, SB, ZB, hB, hxB, ⟨hGB, hLB⟩, hRB, hLoB, hl, ⟨by have := hrB.1; omega, hrB.2⟩, rfl, rfl⟩
set_option maxHeartbeats 4000000 in
set_option maxRecDepth 100000 in
theorem lc_26 (C0 : lw_At p s m meth c b L xs) (hL : L ≤ 3072) (A : mx_Wx (tB l D s.heap.size ad s.heap tau) p s m #[Value.ref b] c code 4 R_law) {i : Nat} (hi : i + 6 ≤ L) {ph : Int} (hph : ph ≤ 10489) (hI : lw_I (tB l D s.heap.size ad s.heap tau) s b i ph H locs la cells slots) (K : ∀ (H : Heap) (locs : List Loc) (cells slots : Nat), lw_I (tB l D s.heap.size ad s.heap tau) s b i (ph + 20) H locs la cells slots → W p l e room_1 s m #[Value.ref b] below meth c H locs cells slots Q (F0 m 1513 la [])) : W p l e room_1 s m #[Value.ref b] below meth c H locs cells slots Q (F0 m 966 la []) := by
  obtain ⟨hx0, hb, hr, hml, hown, hts, hX, hbl, hlocks, hgv⟩ := id C0
  obtain ⟨nZ, wZ, SZ, ZZ, hZ, hxZ, ⟨hGZ, hLZ⟩, hRZ, hLoZ, hl, hrZ, rfl, rfl⟩ := hI
  have qZ : 0 ≤ ZZ 1 1 ∧ ZZ 1 1 ≤ 900 := hGZ.pr 1 1
  have hS := lw_S hRZ hLoZ
  refine lv_aload_n hx0 hb dl_966 rfl (lv_at hl 1 rfl) ?_
  obtain ⟨zA, nA, wA, SA, ZA, hA, hcA, hxA, hGA, hqA, heA1, heA2, heA3, heA4⟩ := sf_115 (l := l) (D := D) (b0 := s.heap.size) (ad := ad) (Hb := s.heap) (tau := tau) hxZ hGZ (by omega)
  obtain ⟨⟨zcA, zsA⟩, ⟨rcA, rsA⟩, hrA⟩ := lw_room hxZ hxA hGZ hrZ (by omega) hqA (mx_Ca_le hcA)
  refine W.eq (g2 := F0 m 967 la ((([] : List Value).map (mx_v (tB l D s.heap.size ad s.heap tau).2.1.1)).reverse ++ .ref (mx_rho (tB l D s.heap.size ad s.heap tau).2.1.1 1) :: [])) rfl ?_
  refine mx_Wcallv (B := (tB l D s.heap.size ad s.heap tau)) (ci := 11) (r := cr_11) (n := 0) A dl_967 me_115 rfl (hxZ.obj (lt83 (GI_n hGZ) rfl) (GI_s hGZ 1 rfl)) (tw lx_5_10 rfl) (tw lx_5_11 rfl) (tw lx_5_9 rfl) hcA rfl hl.1 (by exact Nat.le_of_ble_eq_true rfl) hRZ hLoZ (by decide) (by decide) ⟨by show nZ - 1 + (hA.1 - hZ.1) ≤ 600000; rw [zcA]; exact rcA, by show _ + (hA.2.1 - hZ.2.1) ≤ 7302250; rw [zsA]; exact rsA⟩ (fun HA locsA hRA hLoA => ?_)
  refine W.cs zcA zsA ?_
  have qA : 0 ≤ ZA 1 1 ∧ ZA 1 1 ≤ 900 := hGA.pr 1 1
  have hS1 := lw_S hRA hLoA
  clear hS
  have hS := hS1
  refine W.eq (g2 := F0 m 970 la (xI zA :: [])) rfl ?_
  refine lv_pop hx0 hb dl_970 rfl ?_
  refine lv_aload_n hx0 hb dl_971 rfl (lv_at hl 2 rfl) ?_
  obtain ⟨zB, nB, wB, SB, ZB, hB, hcB, hxB, hGB, hqB, heB1, heB2, heB3, heB4⟩ := sf_251 (l := l) (D := D) (b0 := s.heap.size) (ad := ad) (Hb := s.heap) (tau := tau) hxA hGA (by omega)
  obtain ⟨⟨zcB, zsB⟩, ⟨rcB, rsB⟩, hrB⟩ := lw_room hxA hxB hGA hrA (by omega) hqB (mx_Ca_le hcB)
  refine W.eq (g2 := F0 m 972 la ((([] : List Value).map (mx_v (tB l D s.heap.size ad s.heap tau).2.1.1)).reverse ++ .ref (mx_rho (tB l D s.heap.size ad s.heap tau).2.1.1 56) :: [])) rfl ?_
  refine mx_Wcallv (B := (tB l D s.heap.size ad s.heap tau)) (ci := 12) (r := cr_12) (n := 0) A dl_972 me_251 rfl (hxA.obj (lt83 (GI_n hGA) rfl) (GI_s hGA 56 rfl)) (tw lx_8_1 rfl) (tw lx_8_2 rfl) (tw lx_8_0 rfl) hcB rfl hl.1 (by exact Nat.le_of_ble_eq_true rfl) hRA hLoA (by decide) (by decide) ⟨by show nA - 1 + (hB.1 - hA.1) ≤ 600000; rw [zcB]; exact rcB, by show _ + (hB.2.1 - hA.2.1) ≤ 7302250; rw [zsB]; exact rsB⟩ (fun HB locsB hRB hLoB => ?_)
  refine W.cs zcB zsB ?_
  have hLB1 : RL1 ZB := RL1_rv heB1 (RL1_rv heA1 hLZ.1)
  have hLB2 : RL2 ZB := RL2_rv heB2 (RL2_rv heA2 hLZ.2.1)
  have hLB3 : RL3 ZB := RL3_rv heB3 (RL3_rv heA3 hLZ.2.2.1)
  have hLB4 : RL4 ZB := RL4_rv hGA heB4 (RL4_rv hGZ heA4 hLZ.2.2.2)
  have hLB : RL ZB := ⟨hLB1, hLB2, hLB3, hLB4⟩
  refine W.eq (g2 := F0 m 975 la (xI zB :: [])) rfl ?_
  refine lv_pop hx0 hb dl_975 rfl ?_
  refine lv_goto (tgt := 1513) hx0 hb dl_976 (by decide) ?_
  exact K HB locsB (nB - 1) wB ⟨nB, wB, SB, ZB, hB, hxB, ⟨hGB, hLB⟩, hRB, hLoB, hl, ⟨by have := hrB.1; omega, hrB.2⟩, rfl, rfl⟩
set_option maxHeartbeats 4000000 in
set_option maxRecDepth 100000 in
theorem lc_27 (C0 : lw_At p s m meth c b L xs) (hL : L ≤ 3072) (A : mx_Wx (tB l D s.heap.size ad s.heap tau) p s m #[Value.ref b] c code 4 R_law) {i : Nat} (hi : i + 6 ≤ L) {ph : Int} (hph : ph ≤ 10489) (hI : lw_I (tB l D s.heap.size ad s.heap tau) s b i ph H locs la cells slots) (K : ∀ (H : Heap) (locs : List Loc) (cells slots : Nat), lw_I (tB l D s.heap.size ad s.heap tau) s b i (ph + 20) H locs la cells slots → W p l e room_1 s m #[Value.ref b] below meth c H locs cells slots Q (F0 m 1513 la [])) : W p l e room_1 s m #[Value.ref b] below meth c H locs cells slots Q (F0 m 979 la []) := by
  obtain ⟨hx0, hb, hr, hml, hown, hts, hX, hbl, hlocks, hgv⟩ := id C0
  obtain ⟨nZ, wZ, SZ, ZZ, hZ, hxZ, ⟨hGZ, hLZ⟩, hRZ, hLoZ, hl, hrZ, rfl, rfl⟩ := hI
  have qZ : 0 ≤ ZZ 1 1 ∧ ZZ 1 1 ≤ 900 := hGZ.pr 1 1
  have hS := lw_S hRZ hLoZ
  refine lv_aload_n hx0 hb dl_979 rfl (lv_at hl 1 rfl) ?_
  refine lw_arg C0 hS hl (j := 1) (x := 1) (by omega) hL (by decide) (by decide +kernel) dl_980 dl_981 dl_982 dl_983 dl_984 ?_
  obtain ⟨zA, nA, wA, SA, ZA, hA, hcA, hxA, hGA, hqA, heA1, heA2, heA3, heA4⟩ := sf_116 (l := l) (D := D) (b0 := s.heap.size) (ad := ad) (Hb := s.heap) (tau := tau) (x0 := (xs (i + 1)).toInt) hxZ hGZ (iI_x (xs (i + 1))) (by omega)
  rw [eI (xs (i + 1))] at hcA
  obtain ⟨⟨zcA, zsA⟩, ⟨rcA, rsA⟩, hrA⟩ := lw_room hxZ hxA hGZ hrZ (by omega) hqA (mx_Ca_le hcA)
  refine W.eq (g2 := F0 m 985 la ((([.int (xs (i + 1))] : List Value).map (mx_v (tB l D s.heap.size ad s.heap tau).2.1.1)).reverse ++ .ref (mx_rho (tB l D s.heap.size ad s.heap tau).2.1.1 1) :: [])) rfl ?_
  refine mx_Wcallv (B := (tB l D s.heap.size ad s.heap tau)) (ci := 11) (r := cr_11) (n := 1) A dl_985 me_116 rfl (hxZ.obj (lt83 (GI_n hGZ) rfl) (GI_s hGZ 1 rfl)) (tw lx_5_14 rfl) (tw lx_5_15 rfl) (tw lx_5_13 rfl) hcA rfl hl.1 (by exact Nat.le_of_ble_eq_true rfl) hRZ hLoZ (by decide) (by decide) ⟨by show nZ - 1 + (hA.1 - hZ.1) ≤ 600000; rw [zcA]; exact rcA, by show _ + (hA.2.1 - hZ.2.1) ≤ 7302250; rw [zsA]; exact rsA⟩ (fun HA locsA hRA hLoA => ?_)
  refine W.cs zcA zsA ?_
  have qA : 0 ≤ ZA 1 1 ∧ ZA 1 1 ≤ 900 := hGA.pr 1 1
  have hS1 := lw_S hRA hLoA
  clear hS
  have hS := hS1
  refine W.eq (g2 := F0 m 988 la (xI zA :: [])) rfl ?_
  refine lv_pop hx0 hb dl_988 rfl ?_
  refine lv_aload_n hx0 hb dl_989 rfl (lv_at hl 2 rfl) ?_
  refine lw_arg C0 hS hl (j := 1) (x := 1) (by omega) hL (by decide) (by decide +kernel) dl_990 dl_991 dl_992 dl_993 dl_994 ?_
  obtain ⟨zB, nB, wB, SB, ZB, hB, hcB, hxB, hGB, hqB, heB1, heB2, heB3, heB4⟩ := sf_253 (l := l) (D := D) (b0 := s.heap.size) (ad := ad) (Hb := s.heap) (tau := tau) (x0 := (xs (i + 1)).toInt) hxA hGA (iI_x (xs (i + 1))) (by omega)
  rw [eI (xs (i + 1))] at hcB
  obtain ⟨⟨zcB, zsB⟩, ⟨rcB, rsB⟩, hrB⟩ := lw_room hxA hxB hGA hrA (by omega) hqB (mx_Ca_le hcB)
  refine W.eq (g2 := F0 m 995 la ((([.int (xs (i + 1))] : List Value).map (mx_v (tB l D s.heap.size ad s.heap tau).2.1.1)).reverse ++ .ref (mx_rho (tB l D s.heap.size ad s.heap tau).2.1.1 56) :: [])) rfl ?_
  refine mx_Wcallv (B := (tB l D s.heap.size ad s.heap tau)) (ci := 12) (r := cr_12) (n := 1) A dl_995 me_253 rfl (hxA.obj (lt83 (GI_n hGA) rfl) (GI_s hGA 56 rfl)) (tw lx_8_5 rfl) (tw lx_8_6 rfl) (tw lx_8_4 rfl) hcB rfl hl.1 (by exact Nat.le_of_ble_eq_true rfl) hRA hLoA (by decide) (by decide) ⟨by show nA - 1 + (hB.1 - hA.1) ≤ 600000; rw [zcB]; exact rcB, by show _ + (hB.2.1 - hA.2.1) ≤ 7302250; rw [zsB]; exact rsB⟩ (fun HB locsB hRB hLoB => ?_)
  refine W.cs zcB zsB ?_
  have hLB1 : RL1 ZB := RL1_rv heB1 (RL1_rv heA1 hLZ.1)
  have hLB2 : RL2 ZB := RL2_rv heB2 (RL2_rv heA2 hLZ.2.1)
  have hLB3 : RL3 ZB := RL3_rv heB3 (RL3_rv heA3 hLZ.2.2.1)
  have hLB4 : RL4 ZB := RL4_rv hGA heB4 (RL4_rv hGZ heA4 hLZ.2.2.2)
  have hLB : RL ZB := ⟨hLB1, hLB2, hLB3, hLB4⟩
  refine W.eq (g2 := F0 m 998 la (xI zB :: [])) rfl ?_
  refine lv_pop hx0 hb dl_998 rfl ?_
  refine lv_goto (tgt := 1513) hx0 hb dl_999 (by decide) ?_
  exact K HB locsB (nB - 1) wB ⟨nB, wB, SB, ZB, hB, hxB, ⟨hGB, hLB⟩, hRB, hLoB, hl, ⟨by have := hrB.1; omega, hrB.2⟩, rfl, rfl⟩
set_option maxHeartbeats 4000000 in
set_option maxRecDepth 100000 in
theorem lc_28 (C0 : lw_At p s m meth c b L xs) (hL : L ≤ 3072) (A : mx_Wx (tB l D s.heap.size ad s.heap tau) p s m #[Value.ref b] c code 4 R_law) {i : Nat} (hi : i + 6 ≤ L) {ph : Int} (hph : ph ≤ 10489) (hI : lw_I (tB l D s.heap.size ad s.heap tau) s b i ph H locs la cells slots) (K : ∀ (H : Heap) (locs : List Loc) (cells slots : Nat), lw_I (tB l D s.heap.size ad s.heap tau) s b i (ph + 20) H locs la cells slots → W p l e room_1 s m #[Value.ref b] below meth c H locs cells slots Q (F0 m 1513 la [])) : W p l e room_1 s m #[Value.ref b] below meth c H locs cells slots Q (F0 m 1002 la []) := by
  obtain ⟨hx0, hb, hr, hml, hown, hts, hX, hbl, hlocks, hgv⟩ := id C0
  obtain ⟨nZ, wZ, SZ, ZZ, hZ, hxZ, ⟨hGZ, hLZ⟩, hRZ, hLoZ, hl, hrZ, rfl, rfl⟩ := hI
  have qZ : 0 ≤ ZZ 1 1 ∧ ZZ 1 1 ≤ 900 := hGZ.pr 1 1
  have hS := lw_S hRZ hLoZ
  refine lv_aload_n hx0 hb dl_1002 rfl (lv_at hl 1 rfl) ?_
  obtain ⟨zA, nA, wA, SA, ZA, hA, hcA, hxA, hGA, hqA, heA1, heA2, heA3, heA4⟩ := sf_117 (l := l) (D := D) (b0 := s.heap.size) (ad := ad) (Hb := s.heap) (tau := tau) hxZ hGZ (by omega)
  obtain ⟨⟨zcA, zsA⟩, ⟨rcA, rsA⟩, hrA⟩ := lw_room hxZ hxA hGZ hrZ (by omega) hqA (mx_Ca_le hcA)
  refine W.eq (g2 := F0 m 1003 la ((([] : List Value).map (mx_v (tB l D s.heap.size ad s.heap tau).2.1.1)).reverse ++ .ref (mx_rho (tB l D s.heap.size ad s.heap tau).2.1.1 1) :: [])) rfl ?_
  refine mx_Wcallv (B := (tB l D s.heap.size ad s.heap tau)) (ci := 11) (r := cr_11) (n := 0) A dl_1003 me_117 rfl (hxZ.obj (lt83 (GI_n hGZ) rfl) (GI_s hGZ 1 rfl)) (tw lx_5_23 rfl) (tw lx_5_24 rfl) (tw lx_5_22 rfl) hcA rfl hl.1 (by exact Nat.le_of_ble_eq_true rfl) hRZ hLoZ (by decide) (by decide) ⟨by show nZ - 1 + (hA.1 - hZ.1) ≤ 600000; rw [zcA]; exact rcA, by show _ + (hA.2.1 - hZ.2.1) ≤ 7302250; rw [zsA]; exact rsA⟩ (fun HA locsA hRA hLoA => ?_)
  refine W.cs zcA zsA ?_
  have qA : 0 ≤ ZA 1 1 ∧ ZA 1 1 ≤ 900 := hGA.pr 1 1
  have hS1 := lw_S hRA hLoA
  clear hS
  have hS := hS1
  refine W.eq (g2 := F0 m 1006 la (xI zA :: [])) rfl ?_
  refine lv_pop hx0 hb dl_1006 rfl ?_
  refine lv_aload_n hx0 hb dl_1007 rfl (lv_at hl 2 rfl) ?_
  obtain ⟨zB, nB, wB, SB, ZB, hB, hcB, hxB, hGB, hqB, heB1, heB2, heB3, heB4⟩ := sf_254 (l := l) (D := D) (b0 := s.heap.size) (ad := ad) (Hb := s.heap) (tau := tau) hxA hGA (by omega)
  obtain ⟨⟨zcB, zsB⟩, ⟨rcB, rsB⟩, hrB⟩ := lw_room hxA hxB hGA hrA (by omega) hqB (mx_Ca_le hcB)
  refine W.eq (g2 := F0 m 1008 la ((([] : List Value).map (mx_v (tB l D s.heap.size ad s.heap tau).2.1.1)).reverse ++ .ref (mx_rho (tB l D s.heap.size ad s.heap tau).2.1.1 56) :: [])) rfl ?_
  refine mx_Wcallv (B := (tB l D s.heap.size ad s.heap tau)) (ci := 12) (r := cr_12) (n := 0) A dl_1008 me_254 rfl (hxA.obj (lt83 (GI_n hGA) rfl) (GI_s hGA 56 rfl)) (tw lx_8_13 rfl) (tw lx_8_14 rfl) (tw lx_8_12 rfl) hcB rfl hl.1 (by exact Nat.le_of_ble_eq_true rfl) hRA hLoA (by decide) (by decide) ⟨by show nA - 1 + (hB.1 - hA.1) ≤ 600000; rw [zcB]; exact rcB, by show _ + (hB.2.1 - hA.2.1) ≤ 7302250; rw [zsB]; exact rsB⟩ (fun HB locsB hRB hLoB => ?_)
  refine W.cs zcB zsB ?_
  have hLB1 : RL1 ZB := RL1_rv heB1 (RL1_rv heA1 hLZ.1)
  have hLB2 : RL2 ZB := RL2_rv heB2 (RL2_rv heA2 hLZ.2.1)
  have hLB3 : RL3 ZB := RL3_rv heB3 (RL3_rv heA3 hLZ.2.2.1)
  have hLB4 : RL4 ZB := RL4_rv hGA heB4 (RL4_rv hGZ heA4 hLZ.2.2.2)
  have hLB : RL ZB := ⟨hLB1, hLB2, hLB3, hLB4⟩
  refine W.eq (g2 := F0 m 1011 la (xI zB :: [])) rfl ?_
  refine lv_pop hx0 hb dl_1011 rfl ?_
  refine lv_goto (tgt := 1513) hx0 hb dl_1012 (by decide) ?_
  exact K HB locsB (nB - 1) wB ⟨nB, wB, SB, ZB, hB, hxB, ⟨hGB, hLB⟩, hRB, hLoB, hl, ⟨by have := hrB.1; omega, hrB.2⟩, rfl, rfl⟩
set_option maxHeartbeats 4000000 in
set_option maxRecDepth 100000 in
theorem lc_29 (C0 : lw_At p s m meth c b L xs) (hL : L ≤ 3072) (A : mx_Wx (tB l D s.heap.size ad s.heap tau) p s m #[Value.ref b] c code 4 R_law) {i : Nat} (hi : i + 6 ≤ L) {ph : Int} (hph : ph ≤ 10489) (hI : lw_I (tB l D s.heap.size ad s.heap tau) s b i ph H locs la cells slots) (K : ∀ (H : Heap) (locs : List Loc) (cells slots : Nat), lw_I (tB l D s.heap.size ad s.heap tau) s b i (ph + 20) H locs la cells slots → W p l e room_1 s m #[Value.ref b] below meth c H locs cells slots Q (F0 m 1513 la [])) : W p l e room_1 s m #[Value.ref b] below meth c H locs cells slots Q (F0 m 1015 la []) := by
  obtain ⟨hx0, hb, hr, hml, hown, hts, hX, hbl, hlocks, hgv⟩ := id C0
  obtain ⟨nZ, wZ, SZ, ZZ, hZ, hxZ, ⟨hGZ, hLZ⟩, hRZ, hLoZ, hl, hrZ, rfl, rfl⟩ := hI
  have qZ : 0 ≤ ZZ 1 1 ∧ ZZ 1 1 ≤ 900 := hGZ.pr 1 1
  have hS := lw_S hRZ hLoZ
  refine lv_aload_n hx0 hb dl_1015 rfl (lv_at hl 1 rfl) ?_
  refine lw_arg C0 hS hl (j := 1) (x := 1) (by omega) hL (by decide) (by decide +kernel) dl_1016 dl_1017 dl_1018 dl_1019 dl_1020 ?_
  obtain ⟨zA, nA, wA, SA, ZA, hA, hcA, hxA, hGA, hqA, heA1, heA2, heA3, heA4⟩ := sf_118 (l := l) (D := D) (b0 := s.heap.size) (ad := ad) (Hb := s.heap) (tau := tau) (x0 := (xs (i + 1)).toInt) hxZ hGZ (iI_x (xs (i + 1))) (by omega)
  rw [eI (xs (i + 1))] at hcA
  obtain ⟨⟨zcA, zsA⟩, ⟨rcA, rsA⟩, hrA⟩ := lw_room hxZ hxA hGZ hrZ (by omega) hqA (mx_Ca_le hcA)
  refine W.eq (g2 := F0 m 1021 la ((([.int (xs (i + 1))] : List Value).map (mx_v (tB l D s.heap.size ad s.heap tau).2.1.1)).reverse ++ .ref (mx_rho (tB l D s.heap.size ad s.heap tau).2.1.1 1) :: [])) rfl ?_
  refine mx_Wcallv (B := (tB l D s.heap.size ad s.heap tau)) (ci := 11) (r := cr_11) (n := 1) A dl_1021 me_118 rfl (hxZ.obj (lt83 (GI_n hGZ) rfl) (GI_s hGZ 1 rfl)) (tw lx_5_27 rfl) (tw lx_5_28 rfl) (tw lx_5_26 rfl) hcA rfl hl.1 (by exact Nat.le_of_ble_eq_true rfl) hRZ hLoZ (by decide) (by decide) ⟨by show nZ - 1 + (hA.1 - hZ.1) ≤ 600000; rw [zcA]; exact rcA, by show _ + (hA.2.1 - hZ.2.1) ≤ 7302250; rw [zsA]; exact rsA⟩ (fun HA locsA hRA hLoA => ?_)
  refine W.cs zcA zsA ?_
  have qA : 0 ≤ ZA 1 1 ∧ ZA 1 1 ≤ 900 := hGA.pr 1 1
  have hS1 := lw_S hRA hLoA
  clear hS
  have hS := hS1
  refine W.eq (g2 := F0 m 1024 la (xL zA :: [])) rfl ?_
  refine lv_pop2_2 hx0 hb dl_1024 rfl ?_
  refine lv_aload_n hx0 hb dl_1025 rfl (lv_at hl 2 rfl) ?_
  refine lw_arg C0 hS hl (j := 1) (x := 1) (by omega) hL (by decide) (by decide +kernel) dl_1026 dl_1027 dl_1028 dl_1029 dl_1030 ?_
  obtain ⟨zB, nB, wB, SB, ZB, hB, hcB, hxB, hGB, hqB, heB1, heB2, heB3, heB4⟩ := sf_258 (l := l) (D := D) (b0 := s.heap.size) (ad := ad) (Hb := s.heap) (tau := tau) (x0 := (xs (i + 1)).toInt) hxA hGA (iI_x (xs (i + 1))) (by omega)
  rw [eI (xs (i + 1))] at hcB
  obtain ⟨⟨zcB, zsB⟩, ⟨rcB, rsB⟩, hrB⟩ := lw_room hxA hxB hGA hrA (by omega) hqB (mx_Ca_le hcB)
  refine W.eq (g2 := F0 m 1031 la ((([.int (xs (i + 1))] : List Value).map (mx_v (tB l D s.heap.size ad s.heap tau).2.1.1)).reverse ++ .ref (mx_rho (tB l D s.heap.size ad s.heap tau).2.1.1 56) :: [])) rfl ?_
  refine mx_Wcallv (B := (tB l D s.heap.size ad s.heap tau)) (ci := 12) (r := cr_12) (n := 1) A dl_1031 me_258 rfl (hxA.obj (lt83 (GI_n hGA) rfl) (GI_s hGA 56 rfl)) (tw lx_8_17 rfl) (tw lx_8_18 rfl) (tw lx_8_16 rfl) hcB rfl hl.1 (by exact Nat.le_of_ble_eq_true rfl) hRA hLoA (by decide) (by decide) ⟨by show nA - 1 + (hB.1 - hA.1) ≤ 600000; rw [zcB]; exact rcB, by show _ + (hB.2.1 - hA.2.1) ≤ 7302250; rw [zsB]; exact rsB⟩ (fun HB locsB hRB hLoB => ?_)
  refine W.cs zcB zsB ?_
  have hLB1 : RL1 ZB := RL1_rv heB1 (RL1_rv heA1 hLZ.1)
  have hLB2 : RL2 ZB := RL2_rv heB2 (RL2_rv heA2 hLZ.2.1)
  have hLB3 : RL3 ZB := RL3_rv heB3 (RL3_rv heA3 hLZ.2.2.1)
  have hLB4 : RL4 ZB := RL4_rv hGA heB4 (RL4_rv hGZ heA4 hLZ.2.2.2)
  have hLB : RL ZB := ⟨hLB1, hLB2, hLB3, hLB4⟩
  refine W.eq (g2 := F0 m 1034 la (xL zB :: [])) rfl ?_
  refine lv_pop2_2 hx0 hb dl_1034 rfl ?_
  refine lv_goto (tgt := 1513) hx0 hb dl_1035 (by decide) ?_
  exact K HB locsB (nB - 1) wB ⟨nB, wB, SB, ZB, hB, hxB, ⟨hGB, hLB⟩, hRB, hLoB, hl, ⟨by have := hrB.1; omega, hrB.2⟩, rfl, rfl⟩
set_option maxHeartbeats 4000000 in
set_option maxRecDepth 100000 in
theorem lc_30 (C0 : lw_At p s m meth c b L xs) (hL : L ≤ 3072) (A : mx_Wx (tB l D s.heap.size ad s.heap tau) p s m #[Value.ref b] c code 4 R_law) {i : Nat} (hi : i + 6 ≤ L) {ph : Int} (hph : ph ≤ 10489) (hI : lw_I (tB l D s.heap.size ad s.heap tau) s b i ph H locs la cells slots) (K : ∀ (H : Heap) (locs : List Loc) (cells slots : Nat), lw_I (tB l D s.heap.size ad s.heap tau) s b i (ph + 20) H locs la cells slots → W p l e room_1 s m #[Value.ref b] below meth c H locs cells slots Q (F0 m 1513 la [])) : W p l e room_1 s m #[Value.ref b] below meth c H locs cells slots Q (F0 m 1038 la []) := by
  obtain ⟨hx0, hb, hr, hml, hown, hts, hX, hbl, hlocks, hgv⟩ := id C0
  obtain ⟨nZ, wZ, SZ, ZZ, hZ, hxZ, ⟨hGZ, hLZ⟩, hRZ, hLoZ, hl, hrZ, rfl, rfl⟩ := hI
  have qZ : 0 ≤ ZZ 1 1 ∧ ZZ 1 1 ≤ 900 := hGZ.pr 1 1
  have hS := lw_S hRZ hLoZ
  refine lv_aload_n hx0 hb dl_1038 rfl (lv_at hl 1 rfl) ?_
  refine lw_arg C0 hS hl (j := 1) (x := 1) (by omega) hL (by decide) (by decide +kernel) dl_1039 dl_1040 dl_1041 dl_1042 dl_1043 ?_
  refine lw_arg C0 hS hl (j := 2) (x := 2) (by omega) hL (by decide) (by decide +kernel) dl_1044 dl_1045 dl_1046 dl_1047 dl_1048 ?_
  obtain ⟨zA, nA, wA, SA, ZA, hA, hcA, hxA, hGA, hqA, heA1, heA2, heA3, heA4⟩ := sf_119 (l := l) (D := D) (b0 := s.heap.size) (ad := ad) (Hb := s.heap) (tau := tau) (x0 := (xs (i + 1)).toInt) (x1 := (xs (i + 2)).toInt) hxZ hGZ (iI_x (xs (i + 1))) (iI_x (xs (i + 2))) (by omega)
  rw [eI (xs (i + 1)), eI (xs (i + 2))] at hcA
  obtain ⟨⟨zcA, zsA⟩, ⟨rcA, rsA⟩, hrA⟩ := lw_room hxZ hxA hGZ hrZ (by omega) hqA (mx_Ca_le hcA)
  refine W.eq (g2 := F0 m 1049 la ((([.int (xs (i + 1)), .int (xs (i + 2))] : List Value).map (mx_v (tB l D s.heap.size ad s.heap tau).2.1.1)).reverse ++ .ref (mx_rho (tB l D s.heap.size ad s.heap tau).2.1.1 1) :: [])) rfl ?_
  refine mx_Wcallv (B := (tB l D s.heap.size ad s.heap tau)) (ci := 11) (r := cr_11) (n := 2) A dl_1049 me_119 rfl (hxZ.obj (lt83 (GI_n hGZ) rfl) (GI_s hGZ 1 rfl)) (tw lx_5_43 rfl) (tw lx_5_44 rfl) (tw lx_5_42 rfl) hcA rfl hl.1 (by exact Nat.le_of_ble_eq_true rfl) hRZ hLoZ (by decide) (by decide) ⟨by show nZ - 1 + (hA.1 - hZ.1) ≤ 600000; rw [zcA]; exact rcA, by show _ + (hA.2.1 - hZ.2.1) ≤ 7302250; rw [zsA]; exact rsA⟩ (fun HA locsA hRA hLoA => ?_)
  refine W.cs zcA zsA ?_
  have qA : 0 ≤ ZA 1 1 ∧ ZA 1 1 ≤ 900 := hGA.pr 1 1
  have hS1 := lw_S hRA hLoA
  clear hS
  have hS := hS1
  refine W.eq (g2 := F0 m 1052 la (xI zA :: [])) rfl ?_
  refine lv_pop hx0 hb dl_1052 rfl ?_
  refine lv_aload_n hx0 hb dl_1053 rfl (lv_at hl 2 rfl) ?_
  refine lw_arg C0 hS hl (j := 1) (x := 1) (by omega) hL (by decide) (by decide +kernel) dl_1054 dl_1055 dl_1056 dl_1057 dl_1058 ?_
  refine lw_arg C0 hS hl (j := 2) (x := 2) (by omega) hL (by decide) (by decide +kernel) dl_1059 dl_1060 dl_1061 dl_1062 dl_1063 ?_
  obtain ⟨zB, nB, wB, SB, ZB, hB, hcB, hxB, hGB, hqB, heB1, heB2, heB3, heB4⟩ := sf_259 (l := l) (D := D) (b0 := s.heap.size) (ad := ad) (Hb := s.heap) (tau := tau) (x0 := (xs (i + 1)).toInt) (x1 := (xs (i + 2)).toInt) hxA hGA (iI_x (xs (i + 1))) (iI_x (xs (i + 2))) (by omega)
  rw [eI (xs (i + 1)), eI (xs (i + 2))] at hcB
  obtain ⟨⟨zcB, zsB⟩, ⟨rcB, rsB⟩, hrB⟩ := lw_room hxA hxB hGA hrA (by omega) hqB (mx_Ca_le hcB)
  refine W.eq (g2 := F0 m 1064 la ((([.int (xs (i + 1)), .int (xs (i + 2))] : List Value).map (mx_v (tB l D s.heap.size ad s.heap tau).2.1.1)).reverse ++ .ref (mx_rho (tB l D s.heap.size ad s.heap tau).2.1.1 56) :: [])) rfl ?_
  refine mx_Wcallv (B := (tB l D s.heap.size ad s.heap tau)) (ci := 12) (r := cr_12) (n := 2) A dl_1064 me_259 rfl (hxA.obj (lt83 (GI_n hGA) rfl) (GI_s hGA 56 rfl)) (tw lx_8_35 rfl) (tw lx_8_36 rfl) (tw lx_8_34 rfl) hcB rfl hl.1 (by exact Nat.le_of_ble_eq_true rfl) hRA hLoA (by decide) (by decide) ⟨by show nA - 1 + (hB.1 - hA.1) ≤ 600000; rw [zcB]; exact rcB, by show _ + (hB.2.1 - hA.2.1) ≤ 7302250; rw [zsB]; exact rsB⟩ (fun HB locsB hRB hLoB => ?_)
  refine W.cs zcB zsB ?_
  have hLB1 : RL1 ZB := RL1_rv heB1 (RL1_rv heA1 hLZ.1)
  have hLB2 : RL2 ZB := RL2_rv heB2 (RL2_rv heA2 hLZ.2.1)
  have hLB3 : RL3 ZB := RL3_rv heB3 (RL3_rv heA3 hLZ.2.2.1)
  have hLB4 : RL4 ZB := RL4_rv hGA heB4 (RL4_rv hGZ heA4 hLZ.2.2.2)
  have hLB : RL ZB := ⟨hLB1, hLB2, hLB3, hLB4⟩
  refine W.eq (g2 := F0 m 1067 la (xI zB :: [])) rfl ?_
  refine lv_pop hx0 hb dl_1067 rfl ?_
  refine lv_goto (tgt := 1513) hx0 hb dl_1068 (by decide) ?_
  exact K HB locsB (nB - 1) wB ⟨nB, wB, SB, ZB, hB, hxB, ⟨hGB, hLB⟩, hRB, hLoB, hl, ⟨by have := hrB.1; omega, hrB.2⟩, rfl, rfl⟩
set_option maxHeartbeats 4000000 in
set_option maxRecDepth 100000 in
theorem lc_31 (C0 : lw_At p s m meth c b L xs) (hL : L ≤ 3072) (A : mx_Wx (tB l D s.heap.size ad s.heap tau) p s m #[Value.ref b] c code 4 R_law) {i : Nat} (hi : i + 6 ≤ L) {ph : Int} (hph : ph ≤ 10489) (hI : lw_I (tB l D s.heap.size ad s.heap tau) s b i ph H locs la cells slots) (K : ∀ (H : Heap) (locs : List Loc) (cells slots : Nat), lw_I (tB l D s.heap.size ad s.heap tau) s b i (ph + 20) H locs la cells slots → W p l e room_1 s m #[Value.ref b] below meth c H locs cells slots Q (F0 m 1513 la [])) : W p l e room_1 s m #[Value.ref b] below meth c H locs cells slots Q (F0 m 1071 la []) := by
  obtain ⟨hx0, hb, hr, hml, hown, hts, hX, hbl, hlocks, hgv⟩ := id C0
  obtain ⟨nZ, wZ, SZ, ZZ, hZ, hxZ, ⟨hGZ, hLZ⟩, hRZ, hLoZ, hl, hrZ, rfl, rfl⟩ := hI
  have qZ : 0 ≤ ZZ 1 1 ∧ ZZ 1 1 ≤ 900 := hGZ.pr 1 1
  have hS := lw_S hRZ hLoZ
  refine lv_aload_n hx0 hb dl_1071 rfl (lv_at hl 1 rfl) ?_
  refine lw_arg C0 hS hl (j := 1) (x := 1) (by omega) hL (by decide) (by decide +kernel) dl_1072 dl_1073 dl_1074 dl_1075 dl_1076 ?_
  refine lw_arg C0 hS hl (j := 2) (x := 2) (by omega) hL (by decide) (by decide +kernel) dl_1077 dl_1078 dl_1079 dl_1080 dl_1081 ?_
  obtain ⟨zA, nA, wA, SA, ZA, hA, hcA, hxA, hGA, hqA, heA1, heA2, heA3, heA4⟩ := sf_120 (l := l) (D := D) (b0 := s.heap.size) (ad := ad) (Hb := s.heap) (tau := tau) (x0 := (xs (i + 1)).toInt) (x1 := (xs (i + 2)).toInt) hxZ hGZ (iI_x (xs (i + 1))) (iI_x (xs (i + 2))) (by omega)
  rw [eI (xs (i + 1)), eI (xs (i + 2))] at hcA
  obtain ⟨⟨zcA, zsA⟩, ⟨rcA, rsA⟩, hrA⟩ := lw_room hxZ hxA hGZ hrZ (by omega) hqA (mx_Ca_le hcA)
  refine W.eq (g2 := F0 m 1082 la ((([.int (xs (i + 1)), .int (xs (i + 2))] : List Value).map (mx_v (tB l D s.heap.size ad s.heap tau).2.1.1)).reverse ++ .ref (mx_rho (tB l D s.heap.size ad s.heap tau).2.1.1 1) :: [])) rfl ?_
  refine mx_Wcallv (B := (tB l D s.heap.size ad s.heap tau)) (ci := 11) (r := cr_11) (n := 2) A dl_1082 me_120 rfl (hxZ.obj (lt83 (GI_n hGZ) rfl) (GI_s hGZ 1 rfl)) (tw lx_5_64 rfl) (tw lx_5_65 rfl) (tw lx_5_63 rfl) hcA rfl hl.1 (by exact Nat.le_of_ble_eq_true rfl) hRZ hLoZ (by decide) (by decide) ⟨by show nZ - 1 + (hA.1 - hZ.1) ≤ 600000; rw [zcA]; exact rcA, by show _ + (hA.2.1 - hZ.2.1) ≤ 7302250; rw [zsA]; exact rsA⟩ (fun HA locsA hRA hLoA => ?_)
  refine W.cs zcA zsA ?_
  have qA : 0 ≤ ZA 1 1 ∧ ZA 1 1 ≤ 900 := hGA.pr 1 1
  have hS1 := lw_S hRA hLoA
  clear hS
  have hS := hS1
  refine W.eq (g2 := F0 m 1085 la (xI zA :: [])) rfl ?_
  refine lv_pop hx0 hb dl_1085 rfl ?_
  refine lv_aload_n hx0 hb dl_1086 rfl (lv_at hl 2 rfl) ?_
  refine lw_arg C0 hS hl (j := 1) (x := 1) (by omega) hL (by decide) (by decide +kernel) dl_1087 dl_1088 dl_1089 dl_1090 dl_1091 ?_
  refine lw_arg C0 hS hl (j := 2) (x := 2) (by omega) hL (by decide) (by decide +kernel) dl_1092 dl_1093 dl_1094 dl_1095 dl_1096 ?_
  obtain ⟨zB, nB, wB, SB, ZB, hB, hcB, hxB, hGB, hqB, heB1, heB2, heB3, heB4⟩ := sf_260 (l := l) (D := D) (b0 := s.heap.size) (ad := ad) (Hb := s.heap) (tau := tau) (x0 := (xs (i + 1)).toInt) (x1 := (xs (i + 2)).toInt) hxA hGA (iI_x (xs (i + 1))) (iI_x (xs (i + 2))) (by omega)
  rw [eI (xs (i + 1)), eI (xs (i + 2))] at hcB
  obtain ⟨⟨zcB, zsB⟩, ⟨rcB, rsB⟩, hrB⟩ := lw_room hxA hxB hGA hrA (by omega) hqB (mx_Ca_le hcB)
  refine W.eq (g2 := F0 m 1097 la ((([.int (xs (i + 1)), .int (xs (i + 2))] : List Value).map (mx_v (tB l D s.heap.size ad s.heap tau).2.1.1)).reverse ++ .ref (mx_rho (tB l D s.heap.size ad s.heap tau).2.1.1 56) :: [])) rfl ?_
  refine mx_Wcallv (B := (tB l D s.heap.size ad s.heap tau)) (ci := 12) (r := cr_12) (n := 2) A dl_1097 me_260 rfl (hxA.obj (lt83 (GI_n hGA) rfl) (GI_s hGA 56 rfl)) (tw lx_8_39 rfl) (tw lx_8_40 rfl) (tw lx_8_38 rfl) hcB rfl hl.1 (by exact Nat.le_of_ble_eq_true rfl) hRA hLoA (by decide) (by decide) ⟨by show nA - 1 + (hB.1 - hA.1) ≤ 600000; rw [zcB]; exact rcB, by show _ + (hB.2.1 - hA.2.1) ≤ 7302250; rw [zsB]; exact rsB⟩ (fun HB locsB hRB hLoB => ?_)
  refine W.cs zcB zsB ?_
  have hLB1 : RL1 ZB := RL1_rv heB1 (RL1_rv heA1 hLZ.1)
  have hLB2 : RL2 ZB := RL2_rv heB2 (RL2_rv heA2 hLZ.2.1)
  have hLB3 : RL3 ZB := RL3_rv heB3 (RL3_rv heA3 hLZ.2.2.1)
  have hLB4 : RL4 ZB := RL4_rv hGA heB4 (RL4_rv hGZ heA4 hLZ.2.2.2)
  have hLB : RL ZB := ⟨hLB1, hLB2, hLB3, hLB4⟩
  refine W.eq (g2 := F0 m 1100 la (xI zB :: [])) rfl ?_
  refine lv_pop hx0 hb dl_1100 rfl ?_
  refine lv_goto (tgt := 1513) hx0 hb dl_1101 (by decide) ?_
  exact K HB locsB (nB - 1) wB ⟨nB, wB, SB, ZB, hB, hxB, ⟨hGB, hLB⟩, hRB, hLoB, hl, ⟨by have := hrB.1; omega, hrB.2⟩, rfl, rfl⟩
set_option maxHeartbeats 4000000 in
set_option maxRecDepth 100000 in
theorem lc_32 (C0 : lw_At p s m meth c b L xs) (hL : L ≤ 3072) (A : mx_Wx (tB l D s.heap.size ad s.heap tau) p s m #[Value.ref b] c code 4 R_law) {i : Nat} (hi : i + 6 ≤ L) {ph : Int} (hph : ph ≤ 10489) (hI : lw_I (tB l D s.heap.size ad s.heap tau) s b i ph H locs la cells slots) (K : ∀ (H : Heap) (locs : List Loc) (cells slots : Nat), lw_I (tB l D s.heap.size ad s.heap tau) s b i (ph + 20) H locs la cells slots → W p l e room_1 s m #[Value.ref b] below meth c H locs cells slots Q (F0 m 1513 la [])) : W p l e room_1 s m #[Value.ref b] below meth c H locs cells slots Q (F0 m 1104 la []) := by
  obtain ⟨hx0, hb, hr, hml, hown, hts, hX, hbl, hlocks, hgv⟩ := id C0
  obtain ⟨nZ, wZ, SZ, ZZ, hZ, hxZ, ⟨hGZ, hLZ⟩, hRZ, hLoZ, hl, hrZ, rfl, rfl⟩ := hI
  have qZ : 0 ≤ ZZ 1 1 ∧ ZZ 1 1 ≤ 900 := hGZ.pr 1 1
  have hS := lw_S hRZ hLoZ
  refine lv_aload_n hx0 hb dl_1104 rfl (lv_at hl 1 rfl) ?_
  refine lw_arg C0 hS hl (j := 1) (x := 1) (by omega) hL (by decide) (by decide +kernel) dl_1105 dl_1106 dl_1107 dl_1108 dl_1109 ?_
  obtain ⟨zA, nA, wA, SA, ZA, hA, hcA, hxA, hGA, hqA, heA1, heA2, heA3, heA4⟩ := sf_121 (l := l) (D := D) (b0 := s.heap.size) (ad := ad) (Hb := s.heap) (tau := tau) (x0 := (xs (i + 1)).toInt) hxZ hGZ (iI_x (xs (i + 1))) (by omega)
  rw [eI (xs (i + 1))] at hcA
  obtain ⟨⟨zcA, zsA⟩, ⟨rcA, rsA⟩, hrA⟩ := lw_room hxZ hxA hGZ hrZ (by omega) hqA (mx_Ca_le hcA)
  refine W.eq (g2 := F0 m 1110 la ((([.int (xs (i + 1))] : List Value).map (mx_v (tB l D s.heap.size ad s.heap tau).2.1.1)).reverse ++ .ref (mx_rho (tB l D s.heap.size ad s.heap tau).2.1.1 1) :: [])) rfl ?_
  refine mx_Wcallv (B := (tB l D s.heap.size ad s.heap tau)) (ci := 11) (r := cr_11) (n := 1) A dl_1110 me_121 rfl (hxZ.obj (lt83 (GI_n hGZ) rfl) (GI_s hGZ 1 rfl)) (tw lx_5_72 rfl) (tw lx_5_73 rfl) (tw lx_5_71 rfl) hcA rfl hl.1 (by exact Nat.le_of_ble_eq_true rfl) hRZ hLoZ (by decide) (by decide) ⟨by show nZ - 1 + (hA.1 - hZ.1) ≤ 600000; rw [zcA]; exact rcA, by show _ + (hA.2.1 - hZ.2.1) ≤ 7302250; rw [zsA]; exact rsA⟩ (fun HA locsA hRA hLoA => ?_)
  refine W.cs zcA zsA ?_
  have qA : 0 ≤ ZA 1 1 ∧ ZA 1 1 ≤ 900 := hGA.pr 1 1
  have hS1 := lw_S hRA hLoA
  clear hS
  have hS := hS1
  refine W.eq (g2 := F0 m 1113 la (xI zA :: [])) rfl ?_
  refine lv_pop hx0 hb dl_1113 rfl ?_
  refine lv_aload_n hx0 hb dl_1114 rfl (lv_at hl 2 rfl) ?_
  refine lw_arg C0 hS hl (j := 1) (x := 1) (by omega) hL (by decide) (by decide +kernel) dl_1115 dl_1116 dl_1117 dl_1118 dl_1119 ?_
  obtain ⟨zB, nB, wB, SB, ZB, hB, hcB, hxB, hGB, hqB, heB1, heB2, heB3, heB4⟩ := sf_262 (l := l) (D := D) (b0 := s.heap.size) (ad := ad) (Hb := s.heap) (tau := tau) (x0 := (xs (i + 1)).toInt) hxA hGA (iI_x (xs (i + 1))) (by omega)
  rw [eI (xs (i + 1))] at hcB
  obtain ⟨⟨zcB, zsB⟩, ⟨rcB, rsB⟩, hrB⟩ := lw_room hxA hxB hGA hrA (by omega) hqB (mx_Ca_le hcB)
  refine W.eq (g2 := F0 m 1120 la ((([.int (xs (i + 1))] : List Value).map (mx_v (tB l D s.heap.size ad s.heap tau).2.1.1)).reverse ++ .ref (mx_rho (tB l D s.heap.size ad s.heap tau).2.1.1 56) :: [])) rfl ?_
  refine mx_Wcallv (B := (tB l D s.heap.size ad s.heap tau)) (ci := 12) (r := cr_12) (n := 1) A dl_1120 me_262 rfl (hxA.obj (lt83 (GI_n hGA) rfl) (GI_s hGA 56 rfl)) (tw lx_8_43 rfl) (tw lx_8_44 rfl) (tw lx_8_42 rfl) hcB rfl hl.1 (by exact Nat.le_of_ble_eq_true rfl) hRA hLoA (by decide) (by decide) ⟨by show nA - 1 + (hB.1 - hA.1) ≤ 600000; rw [zcB]; exact rcB, by show _ + (hB.2.1 - hA.2.1) ≤ 7302250; rw [zsB]; exact rsB⟩ (fun HB locsB hRB hLoB => ?_)
  refine W.cs zcB zsB ?_
  have hLB1 : RL1 ZB := RL1_rv heB1 (RL1_rv heA1 hLZ.1)
  have hLB2 : RL2 ZB := RL2_rv heB2 (RL2_rv heA2 hLZ.2.1)
  have hLB3 : RL3 ZB := RL3_rv heB3 (RL3_rv heA3 hLZ.2.2.1)
  have hLB4 : RL4 ZB := RL4_rv hGA heB4 (RL4_rv hGZ heA4 hLZ.2.2.2)
  have hLB : RL ZB := ⟨hLB1, hLB2, hLB3, hLB4⟩
  refine W.eq (g2 := F0 m 1123 la (xI zB :: [])) rfl ?_
  refine lv_pop hx0 hb dl_1123 rfl ?_
  refine lv_goto (tgt := 1513) hx0 hb dl_1124 (by decide) ?_
  exact K HB locsB (nB - 1) wB ⟨nB, wB, SB, ZB, hB, hxB, ⟨hGB, hLB⟩, hRB, hLoB, hl, ⟨by have := hrB.1; omega, hrB.2⟩, rfl, rfl⟩
set_option maxHeartbeats 4000000 in
set_option maxRecDepth 100000 in
theorem lc_33 (C0 : lw_At p s m meth c b L xs) (hL : L ≤ 3072) (A : mx_Wx (tB l D s.heap.size ad s.heap tau) p s m #[Value.ref b] c code 4 R_law) {i : Nat} (hi : i + 6 ≤ L) {ph : Int} (hph : ph ≤ 10489) (hI : lw_I (tB l D s.heap.size ad s.heap tau) s b i ph H locs la cells slots) (K : ∀ (H : Heap) (locs : List Loc) (cells slots : Nat), lw_I (tB l D s.heap.size ad s.heap tau) s b i (ph + 20) H locs la cells slots → W p l e room_1 s m #[Value.ref b] below meth c H locs cells slots Q (F0 m 1513 la [])) : W p l e room_1 s m #[Value.ref b] below meth c H locs cells slots Q (F0 m 1127 la []) := by
  obtain ⟨hx0, hb, hr, hml, hown, hts, hX, hbl, hlocks, hgv⟩ := id C0
  obtain ⟨nZ, wZ, SZ, ZZ, hZ, hxZ, ⟨hGZ, hLZ⟩, hRZ, hLoZ, hl, hrZ, rfl, rfl⟩ := hI
  have qZ : 0 ≤ ZZ 1 1 ∧ ZZ 1 1 ≤ 900 := hGZ.pr 1 1
  have hS := lw_S hRZ hLoZ
  refine lv_aload_n hx0 hb dl_1127 rfl (lv_at hl 1 rfl) ?_
  refine lw_arg C0 hS hl (j := 1) (x := 1) (by omega) hL (by decide) (by decide +kernel) dl_1128 dl_1129 dl_1130 dl_1131 dl_1132 ?_
  obtain ⟨zA, nA, wA, SA, ZA, hA, hcA, hxA, hGA, hqA, heA1, heA2, heA3, heA4⟩ := sf_122 (l := l) (D := D) (b0 := s.heap.size) (ad := ad) (Hb := s.heap) (tau := tau) (x0 := (xs (i + 1)).toInt) hxZ hGZ (iI_x (xs (i + 1))) (by omega)
  rw [eI (xs (i + 1))] at hcA
  obtain ⟨⟨zcA, zsA⟩, ⟨rcA, rsA⟩, hrA⟩ := lw_room hxZ hxA hGZ hrZ (by omega) hqA (mx_Ca_le hcA)
  refine W.eq (g2 := F0 m 1133 la ((([.int (xs (i + 1))] : List Value).map (mx_v (tB l D s.heap.size ad s.heap tau).2.1.1)).reverse ++ .ref (mx_rho (tB l D s.heap.size ad s.heap tau).2.1.1 1) :: [])) rfl ?_
  refine mx_Wcallv (B := (tB l D s.heap.size ad s.heap tau)) (ci := 11) (r := cr_11) (n := 1) A dl_1133 me_122 rfl (hxZ.obj (lt83 (GI_n hGZ) rfl) (GI_s hGZ 1 rfl)) (tw lx_5_88 rfl) (tw lx_5_89 rfl) (tw lx_5_87 rfl) hcA rfl hl.1 (by exact Nat.le_of_ble_eq_true rfl) hRZ hLoZ (by decide) (by decide) ⟨by show nZ - 1 + (hA.1 - hZ.1) ≤ 600000; rw [zcA]; exact rcA, by show _ + (hA.2.1 - hZ.2.1) ≤ 7302250; rw [zsA]; exact rsA⟩ (fun HA locsA hRA hLoA => ?_)
  refine W.cs zcA zsA ?_
  have qA : 0 ≤ ZA 1 1 ∧ ZA 1 1 ≤ 900 := hGA.pr 1 1
  have hS1 := lw_S hRA hLoA
  clear hS
  have hS := hS1
  refine W.eq (g2 := F0 m 1136 la (xI zA :: [])) rfl ?_
  refine lv_pop hx0 hb dl_1136 rfl ?_
  refine lv_aload_n hx0 hb dl_1137 rfl (lv_at hl 2 rfl) ?_
  refine lw_arg C0 hS hl (j := 1) (x := 1) (by omega) hL (by decide) (by decide +kernel) dl_1138 dl_1139 dl_1140 dl_1141 dl_1142 ?_
  obtain ⟨zB, nB, wB, SB, ZB, hB, hcB, hxB, hGB, hqB, heB1, heB2, heB3, heB4⟩ := sf_264 (l := l) (D := D) (b0 := s.heap.size) (ad := ad) (Hb := s.heap) (tau := tau) (x0 := (xs (i + 1)).toInt) hxA hGA (iI_x (xs (i + 1))) (by omega)
  rw [eI (xs (i + 1))] at hcB
  obtain ⟨⟨zcB, zsB⟩, ⟨rcB, rsB⟩, hrB⟩ := lw_room hxA hxB hGA hrA (by omega) hqB (mx_Ca_le hcB)
  refine W.eq (g2 := F0 m 1143 la ((([.int (xs (i + 1))] : List Value).map (mx_v (tB l D s.heap.size ad s.heap tau).2.1.1)).reverse ++ .ref (mx_rho (tB l D s.heap.size ad s.heap tau).2.1.1 56) :: [])) rfl ?_
  refine mx_Wcallv (B := (tB l D s.heap.size ad s.heap tau)) (ci := 12) (r := cr_12) (n := 1) A dl_1143 me_264 rfl (hxA.obj (lt83 (GI_n hGA) rfl) (GI_s hGA 56 rfl)) (tw lx_8_51 rfl) (tw lx_8_52 rfl) (tw lx_8_50 rfl) hcB rfl hl.1 (by exact Nat.le_of_ble_eq_true rfl) hRA hLoA (by decide) (by decide) ⟨by show nA - 1 + (hB.1 - hA.1) ≤ 600000; rw [zcB]; exact rcB, by show _ + (hB.2.1 - hA.2.1) ≤ 7302250; rw [zsB]; exact rsB⟩ (fun HB locsB hRB hLoB => ?_)
  refine W.cs zcB zsB ?_
  have hLB1 : RL1 ZB := RL1_rv heB1 (RL1_rv heA1 hLZ.1)
  have hLB2 : RL2 ZB := RL2_rv heB2 (RL2_rv heA2 hLZ.2.1)
  have hLB3 : RL3 ZB := RL3_rv heB3 (RL3_rv heA3 hLZ.2.2.1)
  have hLB4 : RL4 ZB := RL4_rv hGA heB4 (RL4_rv hGZ heA4 hLZ.2.2.2)
  have hLB : RL ZB := ⟨hLB1, hLB2, hLB3, hLB4⟩
  refine W.eq (g2 := F0 m 1146 la (xI zB :: [])) rfl ?_
  refine lv_pop hx0 hb dl_1146 rfl ?_
  refine lv_goto (tgt := 1513) hx0 hb dl_1147 (by decide) ?_
  exact K HB locsB (nB - 1) wB ⟨nB, wB, SB, ZB, hB, hxB, ⟨hGB, hLB⟩, hRB, hLoB, hl, ⟨by have := hrB.1; omega, hrB.2⟩, rfl, rfl⟩
end LAW
