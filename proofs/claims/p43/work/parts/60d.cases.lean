section LAW
variable {p : Program} {e : Env} {s : State} {m : MethodId} {below : List Frame} {meth : Method} {c : Code} {l : Launch} {b L : Nat} {xs : Nat → Int32} {D : va_G} {ad : Nat → Nat} {tau : Nat → Int64} {H : Heap} {locs : List Loc} {la : Array Slot} {cells slots : Nat} {Q : State → Prop}
set_option maxHeartbeats 4000000 in
set_option maxRecDepth 100000 in
theorem lc_34 (C0 : lw_At p s m meth c b L xs) (hL : L ≤ 3072) (A : mx_Wx (tB l D s.heap.size ad s.heap tau) p s m #[Value.ref b] c code 4 R_law) {i : Nat} (hi : i + 6 ≤ L) {ph : Int} (hph : ph ≤ 10489) (hI : lw_I (tB l D s.heap.size ad s.heap tau) s b i ph H locs la cells slots) (K : ∀ (H : Heap) (locs : List Loc) (cells slots : Nat), lw_I (tB l D s.heap.size ad s.heap tau) s b i (ph + 20) H locs la cells slots → W p l e room_1 s m #[Value.ref b] below meth c H locs cells slots Q (F0 m 1513 la [])) : W p l e room_1 s m #[Value.ref b] below meth c H locs cells slots Q (F0 m 1150 la []) := by
  obtain ⟨hx0, hb, hr, hml, hown, hts, hX, hbl, hlocks, hgv⟩ := id C0
  obtain ⟨nZ, wZ, SZ, ZZ, hZ, hxZ, ⟨hGZ, hLZ⟩, hRZ, hLoZ, hl, hrZ, rfl, rfl⟩ := hI
  have qZ : 0 ≤ ZZ 1 1 ∧ ZZ 1 1 ≤ 900 := hGZ.pr 1 1
  have hS := lw_S hRZ hLoZ
  refine lv_aload_n hx0 hb dl_1150 rfl (lv_at hl 1 rfl) ?_
  refine lw_arg C0 hS hl (j := 1) (x := 1) (by omega) hL (by decide) (by decide +kernel) dl_1151 dl_1152 dl_1153 dl_1154 dl_1155 ?_
  obtain ⟨zA, nA, wA, SA, ZA, hA, hcA, hxA, hGA, hqA, heA1, heA2, heA3, heA4⟩ := sf_123 (l := l) (D := D) (b0 := s.heap.size) (ad := ad) (Hb := s.heap) (tau := tau) (x0 := (xs (i + 1)).toInt) hxZ hGZ (iI_x (xs (i + 1))) (by omega)
  rw [eI (xs (i + 1))] at hcA
  obtain ⟨⟨zcA, zsA⟩, ⟨rcA, rsA⟩, hrA⟩ := lw_room hxZ hxA hGZ hrZ (by omega) hqA (mx_Ca_le hcA)
  refine W.eq (g2 := F0 m 1156 la ((([.int (xs (i + 1))] : List Value).map (mx_v (tB l D s.heap.size ad s.heap tau).2.1.1)).reverse ++ .ref (mx_rho (tB l D s.heap.size ad s.heap tau).2.1.1 1) :: [])) rfl ?_
  refine mx_Wcallv (B := (tB l D s.heap.size ad s.heap tau)) (ci := 11) (r := cr_11) (n := 1) A dl_1156 me_123 rfl (hxZ.obj (lt83 (GI_n hGZ) rfl) (GI_s hGZ 1 rfl)) (tw lx_5_97 rfl) (tw lx_5_98 rfl) (tw lx_5_96 rfl) hcA rfl hl.1 (by exact Nat.le_of_ble_eq_true rfl) hRZ hLoZ (by decide) (by decide) ⟨by show nZ - 1 + (hA.1 - hZ.1) ≤ 600000; rw [zcA]; exact rcA, by show _ + (hA.2.1 - hZ.2.1) ≤ 7302250; rw [zsA]; exact rsA⟩ (fun HA locsA hRA hLoA => ?_)
  refine W.cs zcA zsA ?_
  have qA : 0 ≤ ZA 1 1 ∧ ZA 1 1 ≤ 900 := hGA.pr 1 1
  have hS1 := lw_S hRA hLoA
  clear hS
  have hS := hS1
  refine W.eq (g2 := F0 m 1159 la (xI zA :: [])) rfl ?_
  refine lv_pop hx0 hb dl_1159 rfl ?_
  refine lv_aload_n hx0 hb dl_1160 rfl (lv_at hl 2 rfl) ?_
  refine lw_arg C0 hS hl (j := 1) (x := 1) (by omega) hL (by decide) (by decide +kernel) dl_1161 dl_1162 dl_1163 dl_1164 dl_1165 ?_
  obtain ⟨zB, nB, wB, SB, ZB, hB, hcB, hxB, hGB, hqB, heB1, heB2, heB3, heB4⟩ := sf_268 (l := l) (D := D) (b0 := s.heap.size) (ad := ad) (Hb := s.heap) (tau := tau) (x0 := (xs (i + 1)).toInt) hxA hGA (iI_x (xs (i + 1))) (by omega)
  rw [eI (xs (i + 1))] at hcB
  obtain ⟨⟨zcB, zsB⟩, ⟨rcB, rsB⟩, hrB⟩ := lw_room hxA hxB hGA hrA (by omega) hqB (mx_Ca_le hcB)
  refine W.eq (g2 := F0 m 1166 la ((([.int (xs (i + 1))] : List Value).map (mx_v (tB l D s.heap.size ad s.heap tau).2.1.1)).reverse ++ .ref (mx_rho (tB l D s.heap.size ad s.heap tau).2.1.1 56) :: [])) rfl ?_
  refine mx_Wcallv (B := (tB l D s.heap.size ad s.heap tau)) (ci := 12) (r := cr_12) (n := 1) A dl_1166 me_268 rfl (hxA.obj (lt83 (GI_n hGA) rfl) (GI_s hGA 56 rfl)) (tw lx_8_62 rfl) (tw lx_8_63 rfl) (tw lx_8_61 rfl) hcB rfl hl.1 (by exact Nat.le_of_ble_eq_true rfl) hRA hLoA (by decide) (by decide) ⟨by show nA - 1 + (hB.1 - hA.1) ≤ 600000; rw [zcB]; exact rcB, by show _ + (hB.2.1 - hA.2.1) ≤ 7302250; rw [zsB]; exact rsB⟩ (fun HB locsB hRB hLoB => ?_)
  refine W.cs zcB zsB ?_
  have hLB1 : RL1 ZB := RL1_rv heB1 (RL1_rv heA1 hLZ.1)
  have hLB2 : RL2 ZB := RL2_rv heB2 (RL2_rv heA2 hLZ.2.1)
  have hLB3 : RL3 ZB := RL3_rv heB3 (RL3_rv heA3 hLZ.2.2.1)
  have hLB4 : RL4 ZB := RL4_rv hGA heB4 (RL4_rv hGZ heA4 hLZ.2.2.2)
  have hLB : RL ZB := ⟨hLB1, hLB2, hLB3, hLB4⟩
  refine W.eq (g2 := F0 m 1169 la (xI zB :: [])) rfl ?_
  refine lv_pop hx0 hb dl_1169 rfl ?_
  refine lv_goto (tgt := 1513) hx0 hb dl_1170 (by decide) ?_
  exact K HB locsB (nB - 1) wB ⟨nB, wB, SB, ZB, hB, hxB, ⟨hGB, hLB⟩, hRB, hLoB, hl, ⟨by have := hrB.1; omega, hrB.2⟩, rfl, rfl⟩
set_option maxHeartbeats 4000000 in
set_option maxRecDepth 100000 in
theorem lc_35 (C0 : lw_At p s m meth c b L xs) (hL : L ≤ 3072) (A : mx_Wx (tB l D s.heap.size ad s.heap tau) p s m #[Value.ref b] c code 4 R_law) {i : Nat} (hi : i + 6 ≤ L) {ph : Int} (hph : ph ≤ 10489) (hI : lw_I (tB l D s.heap.size ad s.heap tau) s b i ph H locs la cells slots) (K : ∀ (H : Heap) (locs : List Loc) (cells slots : Nat), lw_I (tB l D s.heap.size ad s.heap tau) s b i (ph + 20) H locs la cells slots → W p l e room_1 s m #[Value.ref b] below meth c H locs cells slots Q (F0 m 1513 la [])) : W p l e room_1 s m #[Value.ref b] below meth c H locs cells slots Q (F0 m 1173 la []) := by
  obtain ⟨hx0, hb, hr, hml, hown, hts, hX, hbl, hlocks, hgv⟩ := id C0
  obtain ⟨nZ, wZ, SZ, ZZ, hZ, hxZ, ⟨hGZ, hLZ⟩, hRZ, hLoZ, hl, hrZ, rfl, rfl⟩ := hI
  have qZ : 0 ≤ ZZ 1 1 ∧ ZZ 1 1 ≤ 900 := hGZ.pr 1 1
  have hS := lw_S hRZ hLoZ
  refine lv_aload_n hx0 hb dl_1173 rfl (lv_at hl 1 rfl) ?_
  refine lw_arg C0 hS hl (j := 1) (x := 1) (by omega) hL (by decide) (by decide +kernel) dl_1174 dl_1175 dl_1176 dl_1177 dl_1178 ?_
  obtain ⟨zA, nA, wA, SA, ZA, hA, hcA, hxA, hGA, hqA, heA1, heA2, heA3, heA4⟩ := sf_124 (l := l) (D := D) (b0 := s.heap.size) (ad := ad) (Hb := s.heap) (tau := tau) (x0 := (xs (i + 1)).toInt) hxZ hGZ (iI_x (xs (i + 1))) (by omega)
  rw [eI (xs (i + 1))] at hcA
  obtain ⟨⟨zcA, zsA⟩, ⟨rcA, rsA⟩, hrA⟩ := lw_room hxZ hxA hGZ hrZ (by omega) hqA (mx_Ca_le hcA)
  refine W.eq (g2 := F0 m 1179 la ((([.int (xs (i + 1))] : List Value).map (mx_v (tB l D s.heap.size ad s.heap tau).2.1.1)).reverse ++ .ref (mx_rho (tB l D s.heap.size ad s.heap tau).2.1.1 1) :: [])) rfl ?_
  refine mx_Wcallv (B := (tB l D s.heap.size ad s.heap tau)) (ci := 11) (r := cr_11) (n := 1) A dl_1179 me_124 rfl (hxZ.obj (lt83 (GI_n hGZ) rfl) (GI_s hGZ 1 rfl)) (tw lx_5_114 rfl) (tw lx_5_115 rfl) (tw lx_5_113 rfl) hcA rfl hl.1 (by exact Nat.le_of_ble_eq_true rfl) hRZ hLoZ (by decide) (by decide) ⟨by show nZ - 1 + (hA.1 - hZ.1) ≤ 600000; rw [zcA]; exact rcA, by show _ + (hA.2.1 - hZ.2.1) ≤ 7302250; rw [zsA]; exact rsA⟩ (fun HA locsA hRA hLoA => ?_)
  refine W.cs zcA zsA ?_
  have qA : 0 ≤ ZA 1 1 ∧ ZA 1 1 ≤ 900 := hGA.pr 1 1
  have hS1 := lw_S hRA hLoA
  clear hS
  have hS := hS1
  refine W.eq (g2 := F0 m 1182 la (xI zA :: [])) rfl ?_
  refine lv_pop hx0 hb dl_1182 rfl ?_
  refine lv_aload_n hx0 hb dl_1183 rfl (lv_at hl 2 rfl) ?_
  refine lw_arg C0 hS hl (j := 1) (x := 1) (by omega) hL (by decide) (by decide +kernel) dl_1184 dl_1185 dl_1186 dl_1187 dl_1188 ?_
  obtain ⟨zB, nB, wB, SB, ZB, hB, hcB, hxB, hGB, hqB, heB1, heB2, heB3, heB4⟩ := sf_269 (l := l) (D := D) (b0 := s.heap.size) (ad := ad) (Hb := s.heap) (tau := tau) (x0 := (xs (i + 1)).toInt) hxA hGA (iI_x (xs (i + 1))) (by omega)
  rw [eI (xs (i + 1))] at hcB
  obtain ⟨⟨zcB, zsB⟩, ⟨rcB, rsB⟩, hrB⟩ := lw_room hxA hxB hGA hrA (by omega) hqB (mx_Ca_le hcB)
  refine W.eq (g2 := F0 m 1189 la ((([.int (xs (i + 1))] : List Value).map (mx_v (tB l D s.heap.size ad s.heap tau).2.1.1)).reverse ++ .ref (mx_rho (tB l D s.heap.size ad s.heap tau).2.1.1 56) :: [])) rfl ?_
  refine mx_Wcallv (B := (tB l D s.heap.size ad s.heap tau)) (ci := 12) (r := cr_12) (n := 1) A dl_1189 me_269 rfl (hxA.obj (lt83 (GI_n hGA) rfl) (GI_s hGA 56 rfl)) (tw lx_8_78 rfl) (tw lx_8_79 rfl) (tw lx_8_77 rfl) hcB rfl hl.1 (by exact Nat.le_of_ble_eq_true rfl) hRA hLoA (by decide) (by decide) ⟨by show nA - 1 + (hB.1 - hA.1) ≤ 600000; rw [zcB]; exact rcB, by show _ + (hB.2.1 - hA.2.1) ≤ 7302250; rw [zsB]; exact rsB⟩ (fun HB locsB hRB hLoB => ?_)
  refine W.cs zcB zsB ?_
  have hLB1 : RL1 ZB := RL1_rv heB1 (RL1_rv heA1 hLZ.1)
  have hLB2 : RL2 ZB := RL2_rv heB2 (RL2_rv heA2 hLZ.2.1)
  have hLB3 : RL3 ZB := RL3_rv heB3 (RL3_rv heA3 hLZ.2.2.1)
  have hLB4 : RL4 ZB := RL4_rv hGA heB4 (RL4_rv hGZ heA4 hLZ.2.2.2)
  have hLB : RL ZB := ⟨hLB1, hLB2, hLB3, hLB4⟩
  refine W.eq (g2 := F0 m 1192 la (xI zB :: [])) rfl ?_
  refine lv_pop hx0 hb dl_1192 rfl ?_
  refine lv_goto (tgt := 1513) hx0 hb dl_1193 (by decide) ?_
  exact K HB locsB (nB - 1) wB ⟨nB, wB, SB, ZB, hB, hxB, ⟨hGB, hLB⟩, hRB, hLoB, hl, ⟨by have := hrB.1; omega, hrB.2⟩, rfl, rfl⟩
set_option maxHeartbeats 4000000 in
set_option maxRecDepth 100000 in
theorem lc_36 (C0 : lw_At p s m meth c b L xs) (hL : L ≤ 3072) (A : mx_Wx (tB l D s.heap.size ad s.heap tau) p s m #[Value.ref b] c code 4 R_law) {i : Nat} (hi : i + 6 ≤ L) {ph : Int} (hph : ph ≤ 10489) (hI : lw_I (tB l D s.heap.size ad s.heap tau) s b i ph H locs la cells slots) (K : ∀ (H : Heap) (locs : List Loc) (cells slots : Nat), lw_I (tB l D s.heap.size ad s.heap tau) s b i (ph + 20) H locs la cells slots → W p l e room_1 s m #[Value.ref b] below meth c H locs cells slots Q (F0 m 1513 la [])) : W p l e room_1 s m #[Value.ref b] below meth c H locs cells slots Q (F0 m 1196 la []) := by
  obtain ⟨hx0, hb, hr, hml, hown, hts, hX, hbl, hlocks, hgv⟩ := id C0
  obtain ⟨nZ, wZ, SZ, ZZ, hZ, hxZ, ⟨hGZ, hLZ⟩, hRZ, hLoZ, hl, hrZ, rfl, rfl⟩ := hI
  have qZ : 0 ≤ ZZ 1 1 ∧ ZZ 1 1 ≤ 900 := hGZ.pr 1 1
  have hS := lw_S hRZ hLoZ
  refine lv_aload_n hx0 hb dl_1196 rfl (lv_at hl 1 rfl) ?_
  refine lw_arg C0 hS hl (j := 1) (x := 1) (by omega) hL (by decide) (by decide +kernel) dl_1197 dl_1198 dl_1199 dl_1200 dl_1201 ?_
  obtain ⟨zA, nA, wA, SA, ZA, hA, hcA, hxA, hGA, hqA, heA1, heA2, heA3, heA4⟩ := sf_125 (l := l) (D := D) (b0 := s.heap.size) (ad := ad) (Hb := s.heap) (tau := tau) (x0 := (xs (i + 1)).toInt) hxZ hGZ (iI_x (xs (i + 1))) (by omega)
  rw [eI (xs (i + 1))] at hcA
  obtain ⟨⟨zcA, zsA⟩, ⟨rcA, rsA⟩, hrA⟩ := lw_room hxZ hxA hGZ hrZ (by omega) hqA (mx_Ca_le hcA)
  refine W.eq (g2 := F0 m 1202 la ((([.int (xs (i + 1))] : List Value).map (mx_v (tB l D s.heap.size ad s.heap tau).2.1.1)).reverse ++ .ref (mx_rho (tB l D s.heap.size ad s.heap tau).2.1.1 1) :: [])) rfl ?_
  refine mx_Wcallv (B := (tB l D s.heap.size ad s.heap tau)) (ci := 11) (r := cr_11) (n := 1) A dl_1202 me_125 rfl (hxZ.obj (lt83 (GI_n hGZ) rfl) (GI_s hGZ 1 rfl)) (tw lx_5_119 rfl) (tw lx_5_120 rfl) (tw lx_5_118 rfl) hcA rfl hl.1 (by exact Nat.le_of_ble_eq_true rfl) hRZ hLoZ (by decide) (by decide) ⟨by show nZ - 1 + (hA.1 - hZ.1) ≤ 600000; rw [zcA]; exact rcA, by show _ + (hA.2.1 - hZ.2.1) ≤ 7302250; rw [zsA]; exact rsA⟩ (fun HA locsA hRA hLoA => ?_)
  refine W.cs zcA zsA ?_
  have qA : 0 ≤ ZA 1 1 ∧ ZA 1 1 ≤ 900 := hGA.pr 1 1
  have hS1 := lw_S hRA hLoA
  clear hS
  have hS := hS1
  refine W.eq (g2 := F0 m 1205 la (xI zA :: [])) rfl ?_
  refine lv_pop hx0 hb dl_1205 rfl ?_
  refine lv_aload_n hx0 hb dl_1206 rfl (lv_at hl 2 rfl) ?_
  refine lw_arg C0 hS hl (j := 1) (x := 1) (by omega) hL (by decide) (by decide +kernel) dl_1207 dl_1208 dl_1209 dl_1210 dl_1211 ?_
  obtain ⟨zB, nB, wB, SB, ZB, hB, hcB, hxB, hGB, hqB, heB1, heB2, heB3, heB4⟩ := sf_270 (l := l) (D := D) (b0 := s.heap.size) (ad := ad) (Hb := s.heap) (tau := tau) (x0 := (xs (i + 1)).toInt) hxA hGA (iI_x (xs (i + 1))) (by omega)
  rw [eI (xs (i + 1))] at hcB
  obtain ⟨⟨zcB, zsB⟩, ⟨rcB, rsB⟩, hrB⟩ := lw_room hxA hxB hGA hrA (by omega) hqB (mx_Ca_le hcB)
  refine W.eq (g2 := F0 m 1212 la ((([.int (xs (i + 1))] : List Value).map (mx_v (tB l D s.heap.size ad s.heap tau).2.1.1)).reverse ++ .ref (mx_rho (tB l D s.heap.size ad s.heap tau).2.1.1 56) :: [])) rfl ?_
  refine mx_Wcallv (B := (tB l D s.heap.size ad s.heap tau)) (ci := 12) (r := cr_12) (n := 1) A dl_1212 me_270 rfl (hxA.obj (lt83 (GI_n hGA) rfl) (GI_s hGA 56 rfl)) (tw lx_8_82 rfl) (tw lx_8_83 rfl) (tw lx_8_81 rfl) hcB rfl hl.1 (by exact Nat.le_of_ble_eq_true rfl) hRA hLoA (by decide) (by decide) ⟨by show nA - 1 + (hB.1 - hA.1) ≤ 600000; rw [zcB]; exact rcB, by show _ + (hB.2.1 - hA.2.1) ≤ 7302250; rw [zsB]; exact rsB⟩ (fun HB locsB hRB hLoB => ?_)
  refine W.cs zcB zsB ?_
  have hLB1 : RL1 ZB := RL1_rv heB1 (RL1_rv heA1 hLZ.1)
  have hLB2 : RL2 ZB := RL2_rv heB2 (RL2_rv heA2 hLZ.2.1)
  have hLB3 : RL3 ZB := RL3_rv heB3 (RL3_rv heA3 hLZ.2.2.1)
  have hLB4 : RL4 ZB := RL4_rv hGA heB4 (RL4_rv hGZ heA4 hLZ.2.2.2)
  have hLB : RL ZB := ⟨hLB1, hLB2, hLB3, hLB4⟩
  refine W.eq (g2 := F0 m 1215 la (xI zB :: [])) rfl ?_
  refine lv_pop hx0 hb dl_1215 rfl ?_
  refine lv_goto (tgt := 1513) hx0 hb dl_1216 (by decide) ?_
  exact K HB locsB (nB - 1) wB ⟨nB, wB, SB, ZB, hB, hxB, ⟨hGB, hLB⟩, hRB, hLoB, hl, ⟨by have := hrB.1; omega, hrB.2⟩, rfl, rfl⟩
set_option maxHeartbeats 4000000 in
set_option maxRecDepth 100000 in
theorem lc_37 (C0 : lw_At p s m meth c b L xs) (hL : L ≤ 3072) (A : mx_Wx (tB l D s.heap.size ad s.heap tau) p s m #[Value.ref b] c code 4 R_law) {i : Nat} (hi : i + 6 ≤ L) {ph : Int} (hph : ph ≤ 10489) (hI : lw_I (tB l D s.heap.size ad s.heap tau) s b i ph H locs la cells slots) (K : ∀ (H : Heap) (locs : List Loc) (cells slots : Nat), lw_I (tB l D s.heap.size ad s.heap tau) s b i (ph + 20) H locs la cells slots → W p l e room_1 s m #[Value.ref b] below meth c H locs cells slots Q (F0 m 1513 la [])) : W p l e room_1 s m #[Value.ref b] below meth c H locs cells slots Q (F0 m 1219 la []) := by
  obtain ⟨hx0, hb, hr, hml, hown, hts, hX, hbl, hlocks, hgv⟩ := id C0
  obtain ⟨nZ, wZ, SZ, ZZ, hZ, hxZ, ⟨hGZ, hLZ⟩, hRZ, hLoZ, hl, hrZ, rfl, rfl⟩ := hI
  have qZ : 0 ≤ ZZ 1 1 ∧ ZZ 1 1 ≤ 900 := hGZ.pr 1 1
  have hS := lw_S hRZ hLoZ
  refine lv_aload_n hx0 hb dl_1219 rfl (lv_at hl 1 rfl) ?_
  refine lw_arg C0 hS hl (j := 1) (x := 1) (by omega) hL (by decide) (by decide +kernel) dl_1220 dl_1221 dl_1222 dl_1223 dl_1224 ?_
  refine lw_arg C0 hS hl (j := 2) (x := 2) (by omega) hL (by decide) (by decide +kernel) dl_1225 dl_1226 dl_1227 dl_1228 dl_1229 ?_
  refine lw_arg C0 hS hl (j := 3) (x := 3) (by omega) hL (by decide) (by decide +kernel) dl_1230 dl_1231 dl_1232 dl_1233 dl_1234 ?_
  obtain ⟨zA, nA, wA, SA, ZA, hA, hcA, hxA, hGA, hqA, heA1, heA2, heA3, heA4⟩ := sf_126 (l := l) (D := D) (b0 := s.heap.size) (ad := ad) (Hb := s.heap) (tau := tau) (x0 := (xs (i + 1)).toInt) (x1 := (xs (i + 2)).toInt) (x2 := (xs (i + 3)).toInt) hxZ hGZ (iI_x (xs (i + 1))) (iI_x (xs (i + 2))) (iI_x (xs (i + 3))) (by omega)
  rw [eI (xs (i + 1)), eI (xs (i + 2)), eI (xs (i + 3))] at hcA
  obtain ⟨⟨zcA, zsA⟩, ⟨rcA, rsA⟩, hrA⟩ := lw_room hxZ hxA hGZ hrZ (by omega) hqA (mx_Ca_le hcA)
  refine W.eq (g2 := F0 m 1235 la ((([.int (xs (i + 1)), .int (xs (i + 2)), .int (xs (i + 3))] : List Value).map (mx_v (tB l D s.heap.size ad s.heap tau).2.1.1)).reverse ++ .ref (mx_rho (tB l D s.heap.size ad s.heap tau).2.1.1 1) :: [])) rfl ?_
  refine mx_Wcallv (B := (tB l D s.heap.size ad s.heap tau)) (ci := 11) (r := cr_11) (n := 3) A dl_1235 me_126 rfl (hxZ.obj (lt83 (GI_n hGZ) rfl) (GI_s hGZ 1 rfl)) (tw lx_5_123 rfl) (tw lx_5_124 rfl) (tw lx_5_122 rfl) hcA rfl hl.1 (by exact Nat.le_of_ble_eq_true rfl) hRZ hLoZ (by decide) (by decide) ⟨by show nZ - 1 + (hA.1 - hZ.1) ≤ 600000; rw [zcA]; exact rcA, by show _ + (hA.2.1 - hZ.2.1) ≤ 7302250; rw [zsA]; exact rsA⟩ (fun HA locsA hRA hLoA => ?_)
  refine W.cs zcA zsA ?_
  have qA : 0 ≤ ZA 1 1 ∧ ZA 1 1 ≤ 900 := hGA.pr 1 1
  have hS1 := lw_S hRA hLoA
  clear hS
  have hS := hS1
  refine W.eq (g2 := F0 m 1238 la (xI zA :: [])) rfl ?_
  refine lv_pop hx0 hb dl_1238 rfl ?_
  refine lv_aload_n hx0 hb dl_1239 rfl (lv_at hl 2 rfl) ?_
  refine lw_arg C0 hS hl (j := 1) (x := 1) (by omega) hL (by decide) (by decide +kernel) dl_1240 dl_1241 dl_1242 dl_1243 dl_1244 ?_
  refine lw_arg C0 hS hl (j := 2) (x := 2) (by omega) hL (by decide) (by decide +kernel) dl_1245 dl_1246 dl_1247 dl_1248 dl_1249 ?_
  refine lw_arg C0 hS hl (j := 3) (x := 3) (by omega) hL (by decide) (by decide +kernel) dl_1250 dl_1251 dl_1252 dl_1253 dl_1254 ?_
  obtain ⟨zB, nB, wB, SB, ZB, hB, hcB, hxB, hGB, hqB, heB1, heB2, heB3, heB4⟩ := sf_275 (l := l) (D := D) (b0 := s.heap.size) (ad := ad) (Hb := s.heap) (tau := tau) (x0 := (xs (i + 1)).toInt) (x1 := (xs (i + 2)).toInt) (x2 := (xs (i + 3)).toInt) hxA hGA (iI_x (xs (i + 1))) (iI_x (xs (i + 2))) (iI_x (xs (i + 3))) (by omega)
  rw [eI (xs (i + 1)), eI (xs (i + 2)), eI (xs (i + 3))] at hcB
  obtain ⟨⟨zcB, zsB⟩, ⟨rcB, rsB⟩, hrB⟩ := lw_room hxA hxB hGA hrA (by omega) hqB (mx_Ca_le hcB)
  refine W.eq (g2 := F0 m 1255 la ((([.int (xs (i + 1)), .int (xs (i + 2)), .int (xs (i + 3))] : List Value).map (mx_v (tB l D s.heap.size ad s.heap tau).2.1.1)).reverse ++ .ref (mx_rho (tB l D s.heap.size ad s.heap tau).2.1.1 56) :: [])) rfl ?_
  refine mx_Wcallv (B := (tB l D s.heap.size ad s.heap tau)) (ci := 12) (r := cr_12) (n := 3) A dl_1255 me_275 rfl (hxA.obj (lt83 (GI_n hGA) rfl) (GI_s hGA 56 rfl)) (tw lx_8_86 rfl) (tw lx_8_87 rfl) (tw lx_8_85 rfl) hcB rfl hl.1 (by exact Nat.le_of_ble_eq_true rfl) hRA hLoA (by decide) (by decide) ⟨by show nA - 1 + (hB.1 - hA.1) ≤ 600000; rw [zcB]; exact rcB, by show _ + (hB.2.1 - hA.2.1) ≤ 7302250; rw [zsB]; exact rsB⟩ (fun HB locsB hRB hLoB => ?_)
  refine W.cs zcB zsB ?_
  have hLB1 : RL1 ZB := RL1_rv heB1 (RL1_rv heA1 hLZ.1)
  have hLB2 : RL2 ZB := RL2_rv heB2 (RL2_rv heA2 hLZ.2.1)
  have hLB3 : RL3 ZB := RL3_rv heB3 (RL3_rv heA3 hLZ.2.2.1)
  have hLB4 : RL4 ZB := RL4_rv hGA heB4 (RL4_rv hGZ heA4 hLZ.2.2.2)
  have hLB : RL ZB := ⟨hLB1, hLB2, hLB3, hLB4⟩
  refine W.eq (g2 := F0 m 1258 la (xI zB :: [])) rfl ?_
  refine lv_pop hx0 hb dl_1258 rfl ?_
  refine lv_goto (tgt := 1513) hx0 hb dl_1259 (by decide) ?_
  exact K HB locsB (nB - 1) wB ⟨nB, wB, SB, ZB, hB, hxB, ⟨hGB, hLB⟩, hRB, hLoB, hl, ⟨by have := hrB.1; omega, hrB.2⟩, rfl, rfl⟩
set_option maxHeartbeats 4000000 in
set_option maxRecDepth 100000 in
theorem lc_38 (C0 : lw_At p s m meth c b L xs) (hL : L ≤ 3072) (A : mx_Wx (tB l D s.heap.size ad s.heap tau) p s m #[Value.ref b] c code 4 R_law) {i : Nat} (hi : i + 6 ≤ L) {ph : Int} (hph : ph ≤ 10489) (hI : lw_I (tB l D s.heap.size ad s.heap tau) s b i ph H locs la cells slots) (K : ∀ (H : Heap) (locs : List Loc) (cells slots : Nat), lw_I (tB l D s.heap.size ad s.heap tau) s b i (ph + 20) H locs la cells slots → W p l e room_1 s m #[Value.ref b] below meth c H locs cells slots Q (F0 m 1513 la [])) : W p l e room_1 s m #[Value.ref b] below meth c H locs cells slots Q (F0 m 1262 la []) := by
  obtain ⟨hx0, hb, hr, hml, hown, hts, hX, hbl, hlocks, hgv⟩ := id C0
  obtain ⟨nZ, wZ, SZ, ZZ, hZ, hxZ, ⟨hGZ, hLZ⟩, hRZ, hLoZ, hl, hrZ, rfl, rfl⟩ := hI
  have qZ : 0 ≤ ZZ 1 1 ∧ ZZ 1 1 ≤ 900 := hGZ.pr 1 1
  have hS := lw_S hRZ hLoZ
  refine lv_aload_n hx0 hb dl_1262 rfl (lv_at hl 1 rfl) ?_
  refine lw_arg C0 hS hl (j := 1) (x := 1) (by omega) hL (by decide) (by decide +kernel) dl_1263 dl_1264 dl_1265 dl_1266 dl_1267 ?_
  refine lw_arg C0 hS hl (j := 2) (x := 2) (by omega) hL (by decide) (by decide +kernel) dl_1268 dl_1269 dl_1270 dl_1271 dl_1272 ?_
  obtain ⟨zA, nA, wA, SA, ZA, hA, hcA, hxA, hGA, hqA, heA1, heA2, heA3, heA4⟩ := sf_127 (l := l) (D := D) (b0 := s.heap.size) (ad := ad) (Hb := s.heap) (tau := tau) (x0 := (xs (i + 1)).toInt) (x1 := (xs (i + 2)).toInt) hxZ hGZ (iI_x (xs (i + 1))) (iI_x (xs (i + 2))) (by omega)
  rw [eI (xs (i + 1)), eI (xs (i + 2))] at hcA
  obtain ⟨⟨zcA, zsA⟩, ⟨rcA, rsA⟩, hrA⟩ := lw_room hxZ hxA hGZ hrZ (by omega) hqA (mx_Ca_le hcA)
  refine W.eq (g2 := F0 m 1273 la ((([.int (xs (i + 1)), .int (xs (i + 2))] : List Value).map (mx_v (tB l D s.heap.size ad s.heap tau).2.1.1)).reverse ++ .ref (mx_rho (tB l D s.heap.size ad s.heap tau).2.1.1 1) :: [])) rfl ?_
  refine mx_Wcallv (B := (tB l D s.heap.size ad s.heap tau)) (ci := 11) (r := cr_11) (n := 2) A dl_1273 me_127 rfl (hxZ.obj (lt83 (GI_n hGZ) rfl) (GI_s hGZ 1 rfl)) (tw lx_5_143 rfl) (tw lx_5_144 rfl) (tw lx_5_142 rfl) hcA rfl hl.1 (by exact Nat.le_of_ble_eq_true rfl) hRZ hLoZ (by decide) (by decide) ⟨by show nZ - 1 + (hA.1 - hZ.1) ≤ 600000; rw [zcA]; exact rcA, by show _ + (hA.2.1 - hZ.2.1) ≤ 7302250; rw [zsA]; exact rsA⟩ (fun HA locsA hRA hLoA => ?_)
  refine W.cs zcA zsA ?_
  have qA : 0 ≤ ZA 1 1 ∧ ZA 1 1 ≤ 900 := hGA.pr 1 1
  have hS1 := lw_S hRA hLoA
  clear hS
  have hS := hS1
  refine W.eq (g2 := F0 m 1276 la (xI zA :: [])) rfl ?_
  refine lv_pop hx0 hb dl_1276 rfl ?_
  refine lv_aload_n hx0 hb dl_1277 rfl (lv_at hl 2 rfl) ?_
  refine lw_arg C0 hS hl (j := 1) (x := 1) (by omega) hL (by decide) (by decide +kernel) dl_1278 dl_1279 dl_1280 dl_1281 dl_1282 ?_
  refine lw_arg C0 hS hl (j := 2) (x := 2) (by omega) hL (by decide) (by decide +kernel) dl_1283 dl_1284 dl_1285 dl_1286 dl_1287 ?_
  obtain ⟨zB, nB, wB, SB, ZB, hB, hcB, hxB, hGB, hqB, heB1, heB2, heB3, heB4⟩ := sf_276 (l := l) (D := D) (b0 := s.heap.size) (ad := ad) (Hb := s.heap) (tau := tau) (x0 := (xs (i + 1)).toInt) (x1 := (xs (i + 2)).toInt) hxA hGA (iI_x (xs (i + 1))) (iI_x (xs (i + 2))) (by omega)
  rw [eI (xs (i + 1)), eI (xs (i + 2))] at hcB
  obtain ⟨⟨zcB, zsB⟩, ⟨rcB, rsB⟩, hrB⟩ := lw_room hxA hxB hGA hrA (by omega) hqB (mx_Ca_le hcB)
  refine W.eq (g2 := F0 m 1288 la ((([.int (xs (i + 1)), .int (xs (i + 2))] : List Value).map (mx_v (tB l D s.heap.size ad s.heap tau).2.1.1)).reverse ++ .ref (mx_rho (tB l D s.heap.size ad s.heap tau).2.1.1 56) :: [])) rfl ?_
  refine mx_Wcallv (B := (tB l D s.heap.size ad s.heap tau)) (ci := 12) (r := cr_12) (n := 2) A dl_1288 me_276 rfl (hxA.obj (lt83 (GI_n hGA) rfl) (GI_s hGA 56 rfl)) (tw lx_8_104 rfl) (tw lx_8_105 rfl) (tw lx_8_103 rfl) hcB rfl hl.1 (by exact Nat.le_of_ble_eq_true rfl) hRA hLoA (by decide) (by decide) ⟨by show nA - 1 + (hB.1 - hA.1) ≤ 600000; rw [zcB]; exact rcB, by show _ + (hB.2.1 - hA.2.1) ≤ 7302250; rw [zsB]; exact rsB⟩ (fun HB locsB hRB hLoB => ?_)
  refine W.cs zcB zsB ?_
  have hLB1 : RL1 ZB := RL1_rv heB1 (RL1_rv heA1 hLZ.1)
  have hLB2 : RL2 ZB := RL2_rv heB2 (RL2_rv heA2 hLZ.2.1)
  have hLB3 : RL3 ZB := RL3_rv heB3 (RL3_rv heA3 hLZ.2.2.1)
  have hLB4 : RL4 ZB := RL4_rv hGA heB4 (RL4_rv hGZ heA4 hLZ.2.2.2)
  have hLB : RL ZB := ⟨hLB1, hLB2, hLB3, hLB4⟩
  refine W.eq (g2 := F0 m 1291 la (xI zB :: [])) rfl ?_
  refine lv_pop hx0 hb dl_1291 rfl ?_
  refine lv_goto (tgt := 1513) hx0 hb dl_1292 (by decide) ?_
  exact K HB locsB (nB - 1) wB ⟨nB, wB, SB, ZB, hB, hxB, ⟨hGB, hLB⟩, hRB, hLoB, hl, ⟨by have := hrB.1; omega, hrB.2⟩, rfl, rfl⟩
set_option maxHeartbeats 4000000 in
set_option maxRecDepth 100000 in
theorem lc_39 (C0 : lw_At p s m meth c b L xs) (hL : L ≤ 3072) (A : mx_Wx (tB l D s.heap.size ad s.heap tau) p s m #[Value.ref b] c code 4 R_law) {i : Nat} (hi : i + 6 ≤ L) {ph : Int} (hph : ph ≤ 10489) (hI : lw_I (tB l D s.heap.size ad s.heap tau) s b i ph H locs la cells slots) (K : ∀ (H : Heap) (locs : List Loc) (cells slots : Nat), lw_I (tB l D s.heap.size ad s.heap tau) s b i (ph + 20) H locs la cells slots → W p l e room_1 s m #[Value.ref b] below meth c H locs cells slots Q (F0 m 1513 la [])) : W p l e room_1 s m #[Value.ref b] below meth c H locs cells slots Q (F0 m 1295 la []) := by
  obtain ⟨hx0, hb, hr, hml, hown, hts, hX, hbl, hlocks, hgv⟩ := id C0
  obtain ⟨nZ, wZ, SZ, ZZ, hZ, hxZ, ⟨hGZ, hLZ⟩, hRZ, hLoZ, hl, hrZ, rfl, rfl⟩ := hI
  have qZ : 0 ≤ ZZ 1 1 ∧ ZZ 1 1 ≤ 900 := hGZ.pr 1 1
  have hS := lw_S hRZ hLoZ
  refine lv_aload_n hx0 hb dl_1295 rfl (lv_at hl 1 rfl) ?_
  refine lw_arg C0 hS hl (j := 1) (x := 1) (by omega) hL (by decide) (by decide +kernel) dl_1296 dl_1297 dl_1298 dl_1299 dl_1300 ?_
  refine lw_arg C0 hS hl (j := 2) (x := 2) (by omega) hL (by decide) (by decide +kernel) dl_1301 dl_1302 dl_1303 dl_1304 dl_1305 ?_
  refine lw_arg C0 hS hl (j := 3) (x := 3) (by omega) hL (by decide) (by decide +kernel) dl_1306 dl_1307 dl_1308 dl_1309 dl_1310 ?_
  obtain ⟨zA, nA, wA, SA, ZA, hA, hcA, hxA, hGA, hqA, heA1, heA2, heA3, heA4, hpA⟩ := sf_128 (l := l) (D := D) (b0 := s.heap.size) (ad := ad) (Hb := s.heap) (tau := tau) (x0 := (xs (i + 1)).toInt) (x1 := (xs (i + 2)).toInt) (x2 := (xs (i + 3)).toInt) hxZ hGZ (iI_x (xs (i + 1))) (iI_x (xs (i + 2))) (iI_x (xs (i + 3))) (by omega)
  rw [eI (xs (i + 1)), eI (xs (i + 2)), eI (xs (i + 3))] at hcA
  obtain ⟨⟨zcA, zsA⟩, ⟨rcA, rsA⟩, hrA⟩ := lw_room hxZ hxA hGZ hrZ (by omega) hqA (mx_Ca_le hcA)
  refine W.eq (g2 := F0 m 1311 la ((([.int (xs (i + 1)), .int (xs (i + 2)), .int (xs (i + 3))] : List Value).map (mx_v (tB l D s.heap.size ad s.heap tau).2.1.1)).reverse ++ .ref (mx_rho (tB l D s.heap.size ad s.heap tau).2.1.1 1) :: [])) rfl ?_
  refine mx_Wcallv (B := (tB l D s.heap.size ad s.heap tau)) (ci := 11) (r := cr_11) (n := 3) A dl_1311 me_128 rfl (hxZ.obj (lt83 (GI_n hGZ) rfl) (GI_s hGZ 1 rfl)) (tw lx_5_151 rfl) (tw lx_5_152 rfl) (tw lx_5_150 rfl) hcA rfl hl.1 (by exact Nat.le_of_ble_eq_true rfl) hRZ hLoZ (by decide) (by decide) ⟨by show nZ - 1 + (hA.1 - hZ.1) ≤ 600000; rw [zcA]; exact rcA, by show _ + (hA.2.1 - hZ.2.1) ≤ 7302250; rw [zsA]; exact rsA⟩ (fun HA locsA hRA hLoA => ?_)
  refine W.cs zcA zsA ?_
  have qA : 0 ≤ ZA 1 1 ∧ ZA 1 1 ≤ 900 := hGA.pr 1 1
  have hS1 := lw_S hRA hLoA
  clear hS
  have hS := hS1
  refine W.eq (g2 := F0 m 1314 la (xI zA :: [])) rfl ?_
  refine lv_pop hx0 hb dl_1314 rfl ?_
  refine lv_aload_n hx0 hb dl_1315 rfl (lv_at hl 2 rfl) ?_
  refine lw_arg C0 hS hl (j := 1) (x := 1) (by omega) hL (by decide) (by decide +kernel) dl_1316 dl_1317 dl_1318 dl_1319 dl_1320 ?_
  refine lw_arg C0 hS hl (j := 2) (x := 2) (by omega) hL (by decide) (by decide +kernel) dl_1321 dl_1322 dl_1323 dl_1324 dl_1325 ?_
  refine lw_arg C0 hS hl (j := 3) (x := 3) (by omega) hL (by decide) (by decide +kernel) dl_1326 dl_1327 dl_1328 dl_1329 dl_1330 ?_
  obtain ⟨zB, nB, wB, SB, ZB, hB, hcB, hxB, hGB, hqB, heB1, heB2, heB3, heB4, hpB⟩ := sf_278 (l := l) (D := D) (b0 := s.heap.size) (ad := ad) (Hb := s.heap) (tau := tau) (x0 := (xs (i + 1)).toInt) (x1 := (xs (i + 2)).toInt) (x2 := (xs (i + 3)).toInt) hxA hGA (iI_x (xs (i + 1))) (iI_x (xs (i + 2))) (iI_x (xs (i + 3))) (by omega)
  rw [eI (xs (i + 1)), eI (xs (i + 2)), eI (xs (i + 3))] at hcB
  obtain ⟨⟨zcB, zsB⟩, ⟨rcB, rsB⟩, hrB⟩ := lw_room hxA hxB hGA hrA (by omega) hqB (mx_Ca_le hcB)
  refine W.eq (g2 := F0 m 1331 la ((([.int (xs (i + 1)), .int (xs (i + 2)), .int (xs (i + 3))] : List Value).map (mx_v (tB l D s.heap.size ad s.heap tau).2.1.1)).reverse ++ .ref (mx_rho (tB l D s.heap.size ad s.heap tau).2.1.1 56) :: [])) rfl ?_
  refine mx_Wcallv (B := (tB l D s.heap.size ad s.heap tau)) (ci := 12) (r := cr_12) (n := 3) A dl_1331 me_278 rfl (hxA.obj (lt83 (GI_n hGA) rfl) (GI_s hGA 56 rfl)) (tw lx_8_108 rfl) (tw lx_8_109 rfl) (tw lx_8_107 rfl) hcB rfl hl.1 (by exact Nat.le_of_ble_eq_true rfl) hRA hLoA (by decide) (by decide) ⟨by show nA - 1 + (hB.1 - hA.1) ≤ 600000; rw [zcB]; exact rcB, by show _ + (hB.2.1 - hA.2.1) ≤ 7302250; rw [zsB]; exact rsB⟩ (fun HB locsB hRB hLoB => ?_)
  refine W.cs zcB zsB ?_
  have hLB1 : RL1 ZB := RL1_rv heB1 (RL1_rv heA1 hLZ.1)
  have hLB2 : RL2 ZB := RL2_rv heB2 (RL2_rv heA2 hLZ.2.1)
  have hLB3 : RL3 ZB := RL3_rv heB3 (RL3_rv heA3 hLZ.2.2.1)
  have hLB4 : RL4 ZB := rl_128 hGZ hLZ.2.2.2 heA4 hpA heB4 hpB
  have hLB : RL ZB := ⟨hLB1, hLB2, hLB3, hLB4⟩
  refine W.eq (g2 := F0 m 1334 la (xI zB :: [])) rfl ?_
  refine lv_pop hx0 hb dl_1334 rfl ?_
  refine lv_goto (tgt := 1513) hx0 hb dl_1335 (by decide) ?_
  exact K HB locsB (nB - 1) wB ⟨nB, wB, SB, ZB, hB, hxB, ⟨hGB, hLB⟩, hRB, hLoB, hl, ⟨by have := hrB.1; omega, hrB.2⟩, rfl, rfl⟩
set_option maxHeartbeats 4000000 in
set_option maxRecDepth 100000 in
theorem lc_40 (C0 : lw_At p s m meth c b L xs) (hL : L ≤ 3072) (A : mx_Wx (tB l D s.heap.size ad s.heap tau) p s m #[Value.ref b] c code 4 R_law) {i : Nat} (hi : i + 6 ≤ L) {ph : Int} (hph : ph ≤ 10489) (hI : lw_I (tB l D s.heap.size ad s.heap tau) s b i ph H locs la cells slots) (K : ∀ (H : Heap) (locs : List Loc) (cells slots : Nat), lw_I (tB l D s.heap.size ad s.heap tau) s b i (ph + 20) H locs la cells slots → W p l e room_1 s m #[Value.ref b] below meth c H locs cells slots Q (F0 m 1513 la [])) : W p l e room_1 s m #[Value.ref b] below meth c H locs cells slots Q (F0 m 1338 la []) := by
  obtain ⟨hx0, hb, hr, hml, hown, hts, hX, hbl, hlocks, hgv⟩ := id C0
  obtain ⟨nZ, wZ, SZ, ZZ, hZ, hxZ, ⟨hGZ, hLZ⟩, hRZ, hLoZ, hl, hrZ, rfl, rfl⟩ := hI
  have qZ : 0 ≤ ZZ 1 1 ∧ ZZ 1 1 ≤ 900 := hGZ.pr 1 1
  have hS := lw_S hRZ hLoZ
  refine lv_aload_n hx0 hb dl_1338 rfl (lv_at hl 1 rfl) ?_
  refine lw_arg C0 hS hl (j := 1) (x := 1) (by omega) hL (by decide) (by decide +kernel) dl_1339 dl_1340 dl_1341 dl_1342 dl_1343 ?_
  refine lw_arg C0 hS hl (j := 2) (x := 2) (by omega) hL (by decide) (by decide +kernel) dl_1344 dl_1345 dl_1346 dl_1347 dl_1348 ?_
  refine lw_arg C0 hS hl (j := 3) (x := 3) (by omega) hL (by decide) (by decide +kernel) dl_1349 dl_1350 dl_1351 dl_1352 dl_1353 ?_
  refine lv_i2l hx0 hb dl_1354 rfl ?_
  refine lv_bipush (v := 32) hx0 hb dl_1355 (by decide) ?_
  refine lv_lshl hx0 hb dl_1357 rfl ?_
  refine lw_arg C0 hS hl (j := 4) (x := 4) (by omega) hL (by decide) (by decide +kernel) dl_1358 dl_1359 dl_1360 dl_1361 dl_1362 ?_
  refine lv_i2l hx0 hb dl_1363 rfl ?_
  refine W.ldc2 hx0 hb hown (hts _ lx_8_135) rfl dl_1364 ?_
  refine lv_land hx0 hb dl_1367 ?_
  refine lv_lor hx0 hb dl_1368 ?_
  obtain ⟨zA, nA, wA, SA, ZA, hA, hcA, hxA, hGA, hqA, heA1, heA2, heA3, heA4, hpA⟩ := sf_129 (l := l) (D := D) (b0 := s.heap.size) (ad := ad) (Hb := s.heap) (tau := tau) (x0 := (xs (i + 1)).toInt) (x1 := (xs (i + 2)).toInt) (x2 := ((xs (i + 3)).toInt64 <<< ((32 : Int32).toInt64 &&& 63) ||| ((xs (i + 4)).toInt64 &&& 4294967295)).toInt) hxZ hGZ (iI_x (xs (i + 1))) (iI_x (xs (i + 2))) (iL_x ((xs (i + 3)).toInt64 <<< ((32 : Int32).toInt64 &&& 63) ||| ((xs (i + 4)).toInt64 &&& 4294967295))) (by omega)
  rw [eI (xs (i + 1)), eI (xs (i + 2)), eL ((xs (i + 3)).toInt64 <<< ((32 : Int32).toInt64 &&& 63) ||| ((xs (i + 4)).toInt64 &&& 4294967295))] at hcA
  obtain ⟨⟨zcA, zsA⟩, ⟨rcA, rsA⟩, hrA⟩ := lw_room hxZ hxA hGZ hrZ (by omega) hqA (mx_Ca_le hcA)
  refine W.eq (g2 := F0 m 1369 la ((([.int (xs (i + 1)), .int (xs (i + 2)), .long ((xs (i + 3)).toInt64 <<< ((32 : Int32).toInt64 &&& 63) ||| ((xs (i + 4)).toInt64 &&& 4294967295))] : List Value).map (mx_v (tB l D s.heap.size ad s.heap tau).2.1.1)).reverse ++ .ref (mx_rho (tB l D s.heap.size ad s.heap tau).2.1.1 1) :: [])) rfl ?_
  refine mx_Wcallv (B := (tB l D s.heap.size ad s.heap tau)) (ci := 11) (r := cr_11) (n := 3) A dl_1369 me_129 rfl (hxZ.obj (lt83 (GI_n hGZ) rfl) (GI_s hGZ 1 rfl)) (tw lx_5_162 rfl) (tw lx_5_163 rfl) (tw lx_5_161 rfl) hcA rfl hl.1 (by exact Nat.le_of_ble_eq_true rfl) hRZ hLoZ (by decide) (by decide) ⟨by show nZ - 1 + (hA.1 - hZ.1) ≤ 600000; rw [zcA]; exact rcA, by show _ + (hA.2.1 - hZ.2.1) ≤ 7302250; rw [zsA]; exact rsA⟩ (fun HA locsA hRA hLoA => ?_)
  refine W.cs zcA zsA ?_
  have qA : 0 ≤ ZA 1 1 ∧ ZA 1 1 ≤ 900 := hGA.pr 1 1
  have hS1 := lw_S hRA hLoA
  clear hS
  have hS := hS1
  refine W.eq (g2 := F0 m 1372 la (xL zA :: [])) rfl ?_
  refine lv_pop2_2 hx0 hb dl_1372 rfl ?_
  refine lv_aload_n hx0 hb dl_1373 rfl (lv_at hl 2 rfl) ?_
  refine lw_arg C0 hS hl (j := 1) (x := 1) (by omega) hL (by decide) (by decide +kernel) dl_1374 dl_1375 dl_1376 dl_1377 dl_1378 ?_
  refine lw_arg C0 hS hl (j := 2) (x := 2) (by omega) hL (by decide) (by decide +kernel) dl_1379 dl_1380 dl_1381 dl_1382 dl_1383 ?_
  refine lw_arg C0 hS hl (j := 3) (x := 3) (by omega) hL (by decide) (by decide +kernel) dl_1384 dl_1385 dl_1386 dl_1387 dl_1388 ?_
  refine lv_i2l hx0 hb dl_1389 rfl ?_
  refine lv_bipush (v := 32) hx0 hb dl_1390 (by decide) ?_
  refine lv_lshl hx0 hb dl_1392 rfl ?_
  refine lw_arg C0 hS hl (j := 4) (x := 4) (by omega) hL (by decide) (by decide +kernel) dl_1393 dl_1394 dl_1395 dl_1396 dl_1397 ?_
  refine lv_i2l hx0 hb dl_1398 rfl ?_
  refine W.ldc2 hx0 hb hown (hts _ lx_8_135) rfl dl_1399 ?_
  refine lv_land hx0 hb dl_1402 ?_
  refine lv_lor hx0 hb dl_1403 ?_
  obtain ⟨zB, nB, wB, SB, ZB, hB, hcB, hxB, hGB, hqB, heB1, heB2, heB3, heB4, hpB⟩ := sf_279 (l := l) (D := D) (b0 := s.heap.size) (ad := ad) (Hb := s.heap) (tau := tau) (x0 := (xs (i + 1)).toInt) (x1 := (xs (i + 2)).toInt) (x2 := ((xs (i + 3)).toInt64 <<< ((32 : Int32).toInt64 &&& 63) ||| ((xs (i + 4)).toInt64 &&& 4294967295)).toInt) hxA hGA (iI_x (xs (i + 1))) (iI_x (xs (i + 2))) (iL_x ((xs (i + 3)).toInt64 <<< ((32 : Int32).toInt64 &&& 63) ||| ((xs (i + 4)).toInt64 &&& 4294967295))) (by omega)
  rw [eI (xs (i + 1)), eI (xs (i + 2)), eL ((xs (i + 3)).toInt64 <<< ((32 : Int32).toInt64 &&& 63) ||| ((xs (i + 4)).toInt64 &&& 4294967295))] at hcB
  obtain ⟨⟨zcB, zsB⟩, ⟨rcB, rsB⟩, hrB⟩ := lw_room hxA hxB hGA hrA (by omega) hqB (mx_Ca_le hcB)
  refine W.eq (g2 := F0 m 1404 la ((([.int (xs (i + 1)), .int (xs (i + 2)), .long ((xs (i + 3)).toInt64 <<< ((32 : Int32).toInt64 &&& 63) ||| ((xs (i + 4)).toInt64 &&& 4294967295))] : List Value).map (mx_v (tB l D s.heap.size ad s.heap tau).2.1.1)).reverse ++ .ref (mx_rho (tB l D s.heap.size ad s.heap tau).2.1.1 56) :: [])) rfl ?_
  refine mx_Wcallv (B := (tB l D s.heap.size ad s.heap tau)) (ci := 12) (r := cr_12) (n := 3) A dl_1404 me_279 rfl (hxA.obj (lt83 (GI_n hGA) rfl) (GI_s hGA 56 rfl)) (tw lx_8_112 rfl) (tw lx_8_113 rfl) (tw lx_8_111 rfl) hcB rfl hl.1 (by exact Nat.le_of_ble_eq_true rfl) hRA hLoA (by decide) (by decide) ⟨by show nA - 1 + (hB.1 - hA.1) ≤ 600000; rw [zcB]; exact rcB, by show _ + (hB.2.1 - hA.2.1) ≤ 7302250; rw [zsB]; exact rsB⟩ (fun HB locsB hRB hLoB => ?_)
  refine W.cs zcB zsB ?_
  have hLB1 : RL1 ZB := RL1_rv heB1 (RL1_rv heA1 hLZ.1)
  have hLB2 : RL2 ZB := RL2_rv heB2 (RL2_rv heA2 hLZ.2.1)
  have hLB3 : RL3 ZB := RL3_rv heB3 (RL3_rv heA3 hLZ.2.2.1)
  have hLB4 : RL4 ZB := rl_129 hGZ hGA hLZ.2.2.2 heA4 hpA heB4 hpB
  have hLB : RL ZB := ⟨hLB1, hLB2, hLB3, hLB4⟩
  refine W.eq (g2 := F0 m 1407 la (xL zB :: [])) rfl ?_
  refine lv_pop2_2 hx0 hb dl_1407 rfl ?_
  refine lv_goto (tgt := 1513) hx0 hb dl_1408 (by decide) ?_
  exact K HB locsB (nB - 1) wB ⟨nB, wB, SB, ZB, hB, hxB, ⟨hGB, hLB⟩, hRB, hLoB, hl, ⟨by have := hrB.1; omega, hrB.2⟩, rfl, rfl⟩
set_option maxHeartbeats 4000000 in
set_option maxRecDepth 100000 in
theorem lc_41 (C0 : lw_At p s m meth c b L xs) (hL : L ≤ 3072) (A : mx_Wx (tB l D s.heap.size ad s.heap tau) p s m #[Value.ref b] c code 4 R_law) {i : Nat} (hi : i + 6 ≤ L) {ph : Int} (hph : ph ≤ 10489) (hI : lw_I (tB l D s.heap.size ad s.heap tau) s b i ph H locs la cells slots) (K : ∀ (H : Heap) (locs : List Loc) (cells slots : Nat), lw_I (tB l D s.heap.size ad s.heap tau) s b i (ph + 20) H locs la cells slots → W p l e room_1 s m #[Value.ref b] below meth c H locs cells slots Q (F0 m 1513 la [])) : W p l e room_1 s m #[Value.ref b] below meth c H locs cells slots Q (F0 m 1411 la []) := by
  obtain ⟨hx0, hb, hr, hml, hown, hts, hX, hbl, hlocks, hgv⟩ := id C0
  obtain ⟨nZ, wZ, SZ, ZZ, hZ, hxZ, ⟨hGZ, hLZ⟩, hRZ, hLoZ, hl, hrZ, rfl, rfl⟩ := hI
  have qZ : 0 ≤ ZZ 1 1 ∧ ZZ 1 1 ≤ 900 := hGZ.pr 1 1
  have hS := lw_S hRZ hLoZ
  refine lv_aload_n hx0 hb dl_1411 rfl (lv_at hl 1 rfl) ?_
  refine lw_arg C0 hS hl (j := 1) (x := 1) (by omega) hL (by decide) (by decide +kernel) dl_1412 dl_1413 dl_1414 dl_1415 dl_1416 ?_
  refine lw_arg C0 hS hl (j := 2) (x := 2) (by omega) hL (by decide) (by decide +kernel) dl_1417 dl_1418 dl_1419 dl_1420 dl_1421 ?_
  obtain ⟨zA, nA, wA, SA, ZA, hA, hcA, hxA, hGA, hqA, heA1, heA2, heA3, heA4, hpA⟩ := sf_130 (l := l) (D := D) (b0 := s.heap.size) (ad := ad) (Hb := s.heap) (tau := tau) (x0 := (xs (i + 1)).toInt) (x1 := (xs (i + 2)).toInt) hxZ hGZ hLZ.2.1 (iI_x (xs (i + 1))) (iI_x (xs (i + 2))) (by omega)
  rw [eI (xs (i + 1)), eI (xs (i + 2))] at hcA
  obtain ⟨⟨zcA, zsA⟩, ⟨rcA, rsA⟩, hrA⟩ := lw_room hxZ hxA hGZ hrZ (by omega) hqA (mx_Ca_le hcA)
  refine W.eq (g2 := F0 m 1422 la ((([.int (xs (i + 1)), .int (xs (i + 2))] : List Value).map (mx_v (tB l D s.heap.size ad s.heap tau).2.1.1)).reverse ++ .ref (mx_rho (tB l D s.heap.size ad s.heap tau).2.1.1 1) :: [])) rfl ?_
  refine mx_Wcallv (B := (tB l D s.heap.size ad s.heap tau)) (ci := 11) (r := cr_11) (n := 2) A dl_1422 me_130 rfl (hxZ.obj (lt83 (GI_n hGZ) rfl) (GI_s hGZ 1 rfl)) (tw lx_5_173 rfl) (tw lx_5_174 rfl) (tw lx_5_172 rfl) hcA rfl hl.1 (by exact Nat.le_of_ble_eq_true rfl) hRZ hLoZ (by decide) (by decide) ⟨by show nZ - 1 + (hA.1 - hZ.1) ≤ 600000; rw [zcA]; exact rcA, by show _ + (hA.2.1 - hZ.2.1) ≤ 7302250; rw [zsA]; exact rsA⟩ (fun HA locsA hRA hLoA => ?_)
  refine W.cs zcA zsA ?_
  have qA : 0 ≤ ZA 1 1 ∧ ZA 1 1 ≤ 900 := hGA.pr 1 1
  have hS1 := lw_S hRA hLoA
  clear hS
  have hS := hS1
  refine W.eq (g2 := F0 m 1425 la (xI zA :: [])) rfl ?_
  refine lv_aload_n hx0 hb dl_1425 rfl (lv_at hl 2 rfl) ?_
  refine lw_arg C0 hS hl (j := 1) (x := 1) (by omega) hL (by decide) (by decide +kernel) dl_1426 dl_1427 dl_1428 dl_1429 dl_1430 ?_
  refine lw_arg C0 hS hl (j := 2) (x := 2) (by omega) hL (by decide) (by decide +kernel) dl_1431 dl_1432 dl_1433 dl_1434 dl_1435 ?_
  obtain ⟨zB, nB, wB, SB, ZB, hB, hcB, hxB, hGB, hqB, heB1, heB2, heB3, heB4, hpB⟩ := sf_280 (l := l) (D := D) (b0 := s.heap.size) (ad := ad) (Hb := s.heap) (tau := tau) (x0 := (xs (i + 1)).toInt) (x1 := (xs (i + 2)).toInt) hxA hGA (RL2_rv heA2 hLZ.2.1) (iI_x (xs (i + 1))) (iI_x (xs (i + 2))) (by omega)
  rw [eI (xs (i + 1)), eI (xs (i + 2))] at hcB
  obtain ⟨⟨zcB, zsB⟩, ⟨rcB, rsB⟩, hrB⟩ := lw_room hxA hxB hGA hrA (by omega) hqB (mx_Ca_le hcB)
  refine W.eq (g2 := F0 m 1436 la ((([.int (xs (i + 1)), .int (xs (i + 2))] : List Value).map (mx_v (tB l D s.heap.size ad s.heap tau).2.1.1)).reverse ++ .ref (mx_rho (tB l D s.heap.size ad s.heap tau).2.1.1 56) :: xI zA :: [])) rfl ?_
  refine mx_Wcallv (B := (tB l D s.heap.size ad s.heap tau)) (ci := 12) (r := cr_12) (n := 2) A dl_1436 me_280 rfl (hxA.obj (lt83 (GI_n hGA) rfl) (GI_s hGA 56 rfl)) (tw lx_8_120 rfl) (tw lx_8_121 rfl) (tw lx_8_119 rfl) hcB rfl hl.1 (by exact Nat.le_of_ble_eq_true rfl) hRA hLoA (by decide) (by decide) ⟨by show nA - 1 + (hB.1 - hA.1) ≤ 600000; rw [zcB]; exact rcB, by show _ + (hB.2.1 - hA.2.1) ≤ 7302250; rw [zsB]; exact rsB⟩ (fun HB locsB hRB hLoB => ?_)
  refine W.cs zcB zsB ?_
  have hLB1 : RL1 ZB := RL1_rv heB1 (RL1_rv heA1 hLZ.1)
  have hLB2 : RL2 ZB := RL2_rv heB2 (RL2_rv heA2 hLZ.2.1)
  have hLB3 : RL3 ZB := RL3_rv heB3 (RL3_rv heA3 hLZ.2.2.1)
  have hLB4 : RL4 ZB := rl_130 hGZ hLZ.2.1 hLZ.2.2.2 heA2 heA4 hpA heB4 hpB
  have hLB : RL ZB := ⟨hLB1, hLB2, hLB3, hLB4⟩
  refine W.eq (g2 := F0 m 1439 la (xI zB :: xI zA :: [])) rfl ?_
  have eAB : zA = zB := eq_130 (n2 := nZ) (S2 := SZ) hGZ hLZ.2.1 hLZ.2.2.2 heA2 heA4 hpA hpB
  refine lv_icmp_eq (tgt := 1513) hx0 hb dl_1439 (by decide) (fun _ => K HB locsB (nB - 1) wB ⟨nB, wB, SB, ZB, hB, hxB, ⟨hGB, hLB⟩, hRB, hLoB, hl, ⟨by have := hrB.1; omega, hrB.2⟩, rfl, rfl⟩) (fun z => absurd (by rw [eAB]) z)
set_option maxHeartbeats 4000000 in
set_option maxRecDepth 100000 in
theorem lc_42 (C0 : lw_At p s m meth c b L xs) (hL : L ≤ 3072) (A : mx_Wx (tB l D s.heap.size ad s.heap tau) p s m #[Value.ref b] c code 4 R_law) {i : Nat} (hi : i + 6 ≤ L) {ph : Int} (hph : ph ≤ 10489) (hI : lw_I (tB l D s.heap.size ad s.heap tau) s b i ph H locs la cells slots) (K : ∀ (H : Heap) (locs : List Loc) (cells slots : Nat), lw_I (tB l D s.heap.size ad s.heap tau) s b i (ph + 20) H locs la cells slots → W p l e room_1 s m #[Value.ref b] below meth c H locs cells slots Q (F0 m 1513 la [])) : W p l e room_1 s m #[Value.ref b] below meth c H locs cells slots Q (F0 m 1444 la []) := by
  obtain ⟨hx0, hb, hr, hml, hown, hts, hX, hbl, hlocks, hgv⟩ := id C0
  obtain ⟨nZ, wZ, SZ, ZZ, hZ, hxZ, ⟨hGZ, hLZ⟩, hRZ, hLoZ, hl, hrZ, rfl, rfl⟩ := hI
  have qZ : 0 ≤ ZZ 1 1 ∧ ZZ 1 1 ≤ 900 := hGZ.pr 1 1
  have hS := lw_S hRZ hLoZ
  refine lv_aload_n hx0 hb dl_1444 rfl (lv_at hl 1 rfl) ?_
  refine lw_arg C0 hS hl (j := 1) (x := 1) (by omega) hL (by decide) (by decide +kernel) dl_1445 dl_1446 dl_1447 dl_1448 dl_1449 ?_
  obtain ⟨zA, nA, wA, SA, ZA, hA, hcA, hxA, hGA, hqA, heA1, heA2, heA3, heA4, hpA⟩ := sf_131 (l := l) (D := D) (b0 := s.heap.size) (ad := ad) (Hb := s.heap) (tau := tau) (x0 := (xs (i + 1)).toInt) hxZ hGZ (iI_x (xs (i + 1))) (by omega)
  rw [eI (xs (i + 1))] at hcA
  obtain ⟨⟨zcA, zsA⟩, ⟨rcA, rsA⟩, hrA⟩ := lw_room hxZ hxA hGZ hrZ (by omega) hqA (mx_Ca_le hcA)
  refine W.eq (g2 := F0 m 1450 la ((([.int (xs (i + 1))] : List Value).map (mx_v (tB l D s.heap.size ad s.heap tau).2.1.1)).reverse ++ .ref (mx_rho (tB l D s.heap.size ad s.heap tau).2.1.1 1) :: [])) rfl ?_
  refine mx_Wcallv (B := (tB l D s.heap.size ad s.heap tau)) (ci := 11) (r := cr_11) (n := 1) A dl_1450 me_131 rfl (hxZ.obj (lt83 (GI_n hGZ) rfl) (GI_s hGZ 1 rfl)) (tw lx_5_178 rfl) (tw lx_5_179 rfl) (tw lx_5_177 rfl) hcA rfl hl.1 (by exact Nat.le_of_ble_eq_true rfl) hRZ hLoZ (by decide) (by decide) ⟨by show nZ - 1 + (hA.1 - hZ.1) ≤ 600000; rw [zcA]; exact rcA, by show _ + (hA.2.1 - hZ.2.1) ≤ 7302250; rw [zsA]; exact rsA⟩ (fun HA locsA hRA hLoA => ?_)
  refine W.cs zcA zsA ?_
  have qA : 0 ≤ ZA 1 1 ∧ ZA 1 1 ≤ 900 := hGA.pr 1 1
  have hS1 := lw_S hRA hLoA
  clear hS
  have hS := hS1
  refine W.eq (g2 := F0 m 1453 la (xI zA :: [])) rfl ?_
  refine lv_pop hx0 hb dl_1453 rfl ?_
  refine lv_aload_n hx0 hb dl_1454 rfl (lv_at hl 2 rfl) ?_
  refine lw_arg C0 hS hl (j := 1) (x := 1) (by omega) hL (by decide) (by decide +kernel) dl_1455 dl_1456 dl_1457 dl_1458 dl_1459 ?_
  obtain ⟨zB, nB, wB, SB, ZB, hB, hcB, hxB, hGB, hqB, heB1, heB2, heB3, heB4, hpB⟩ := sf_281 (l := l) (D := D) (b0 := s.heap.size) (ad := ad) (Hb := s.heap) (tau := tau) (x0 := (xs (i + 1)).toInt) hxA hGA (iI_x (xs (i + 1))) (by omega)
  rw [eI (xs (i + 1))] at hcB
  obtain ⟨⟨zcB, zsB⟩, ⟨rcB, rsB⟩, hrB⟩ := lw_room hxA hxB hGA hrA (by omega) hqB (mx_Ca_le hcB)
  refine W.eq (g2 := F0 m 1460 la ((([.int (xs (i + 1))] : List Value).map (mx_v (tB l D s.heap.size ad s.heap tau).2.1.1)).reverse ++ .ref (mx_rho (tB l D s.heap.size ad s.heap tau).2.1.1 56) :: [])) rfl ?_
  refine mx_Wcallv (B := (tB l D s.heap.size ad s.heap tau)) (ci := 12) (r := cr_12) (n := 1) A dl_1460 me_281 rfl (hxA.obj (lt83 (GI_n hGA) rfl) (GI_s hGA 56 rfl)) (tw lx_8_124 rfl) (tw lx_8_125 rfl) (tw lx_8_123 rfl) hcB rfl hl.1 (by exact Nat.le_of_ble_eq_true rfl) hRA hLoA (by decide) (by decide) ⟨by show nA - 1 + (hB.1 - hA.1) ≤ 600000; rw [zcB]; exact rcB, by show _ + (hB.2.1 - hA.2.1) ≤ 7302250; rw [zsB]; exact rsB⟩ (fun HB locsB hRB hLoB => ?_)
  refine W.cs zcB zsB ?_
  have hLB1 : RL1 ZB := RL1_rv heB1 (RL1_rv heA1 hLZ.1)
  have hLB2 : RL2 ZB := RL2_rv heB2 (RL2_rv heA2 hLZ.2.1)
  have hLB3 : RL3 ZB := rl_131 hLZ.2.2.1 hLZ.2.1 heA2 heA3 hpA heB3 hpB
  have hLB4 : RL4 ZB := RL4_rv hGA heB4 (RL4_rv hGZ heA4 hLZ.2.2.2)
  have hLB : RL ZB := ⟨hLB1, hLB2, hLB3, hLB4⟩
  refine W.eq (g2 := F0 m 1463 la (xI zB :: [])) rfl ?_
  refine lv_pop hx0 hb dl_1463 rfl ?_
  refine lv_goto (tgt := 1513) hx0 hb dl_1464 (by decide) ?_
  exact K HB locsB (nB - 1) wB ⟨nB, wB, SB, ZB, hB, hxB, ⟨hGB, hLB⟩, hRB, hLoB, hl, ⟨by have := hrB.1; omega, hrB.2⟩, rfl, rfl⟩
set_option maxHeartbeats 4000000 in
set_option maxRecDepth 100000 in
theorem lc_43 (C0 : lw_At p s m meth c b L xs) (hL : L ≤ 3072) (A : mx_Wx (tB l D s.heap.size ad s.heap tau) p s m #[Value.ref b] c code 4 R_law) {i : Nat} (hi : i + 6 ≤ L) {ph : Int} (hph : ph ≤ 10489) (hI : lw_I (tB l D s.heap.size ad s.heap tau) s b i ph H locs la cells slots) (K : ∀ (H : Heap) (locs : List Loc) (cells slots : Nat), lw_I (tB l D s.heap.size ad s.heap tau) s b i (ph + 20) H locs la cells slots → W p l e room_1 s m #[Value.ref b] below meth c H locs cells slots Q (F0 m 1513 la [])) : W p l e room_1 s m #[Value.ref b] below meth c H locs cells slots Q (F0 m 1467 la []) := by
  obtain ⟨hx0, hb, hr, hml, hown, hts, hX, hbl, hlocks, hgv⟩ := id C0
  obtain ⟨nZ, wZ, SZ, ZZ, hZ, hxZ, ⟨hGZ, hLZ⟩, hRZ, hLoZ, hl, hrZ, rfl, rfl⟩ := hI
  have qZ : 0 ≤ ZZ 1 1 ∧ ZZ 1 1 ≤ 900 := hGZ.pr 1 1
  have hS := lw_S hRZ hLoZ
  refine lv_aload_n hx0 hb dl_1467 rfl (lv_at hl 1 rfl) ?_
  refine lw_arg C0 hS hl (j := 1) (x := 1) (by omega) hL (by decide) (by decide +kernel) dl_1468 dl_1469 dl_1470 dl_1471 dl_1472 ?_
  obtain ⟨zA, nA, wA, SA, ZA, hA, hcA, hxA, hGA, hqA, heA1, heA2, heA3, heA4, hpA⟩ := sf_132 (l := l) (D := D) (b0 := s.heap.size) (ad := ad) (Hb := s.heap) (tau := tau) (x0 := (xs (i + 1)).toInt) hxZ hGZ hLZ.2.1 (iI_x (xs (i + 1))) (by omega)
  rw [eI (xs (i + 1))] at hcA
  obtain ⟨⟨zcA, zsA⟩, ⟨rcA, rsA⟩, hrA⟩ := lw_room hxZ hxA hGZ hrZ (by omega) hqA (mx_Ca_le hcA)
  refine W.eq (g2 := F0 m 1473 la ((([.int (xs (i + 1))] : List Value).map (mx_v (tB l D s.heap.size ad s.heap tau).2.1.1)).reverse ++ .ref (mx_rho (tB l D s.heap.size ad s.heap tau).2.1.1 1) :: [])) rfl ?_
  refine mx_Wcallv (B := (tB l D s.heap.size ad s.heap tau)) (ci := 11) (r := cr_11) (n := 1) A dl_1473 me_132 rfl (hxZ.obj (lt83 (GI_n hGZ) rfl) (GI_s hGZ 1 rfl)) (tw lx_5_182 rfl) (tw lx_5_183 rfl) (tw lx_5_181 rfl) hcA rfl hl.1 (by exact Nat.le_of_ble_eq_true rfl) hRZ hLoZ (by decide) (by decide) ⟨by show nZ - 1 + (hA.1 - hZ.1) ≤ 600000; rw [zcA]; exact rcA, by show _ + (hA.2.1 - hZ.2.1) ≤ 7302250; rw [zsA]; exact rsA⟩ (fun HA locsA hRA hLoA => ?_)
  refine W.cs zcA zsA ?_
  have qA : 0 ≤ ZA 1 1 ∧ ZA 1 1 ≤ 900 := hGA.pr 1 1
  have hS1 := lw_S hRA hLoA
  clear hS
  have hS := hS1
  refine W.eq (g2 := F0 m 1476 la (xI zA :: [])) rfl ?_
  refine lv_pop hx0 hb dl_1476 rfl ?_
  refine lv_aload_n hx0 hb dl_1477 rfl (lv_at hl 2 rfl) ?_
  refine lw_arg C0 hS hl (j := 1) (x := 1) (by omega) hL (by decide) (by decide +kernel) dl_1478 dl_1479 dl_1480 dl_1481 dl_1482 ?_
  obtain ⟨zB, nB, wB, SB, ZB, hB, hcB, hxB, hGB, hqB, heB1, heB2, heB3, heB4, hpB⟩ := sf_282 (l := l) (D := D) (b0 := s.heap.size) (ad := ad) (Hb := s.heap) (tau := tau) (x0 := (xs (i + 1)).toInt) hxA hGA (iI_x (xs (i + 1))) (by omega)
  rw [eI (xs (i + 1))] at hcB
  obtain ⟨⟨zcB, zsB⟩, ⟨rcB, rsB⟩, hrB⟩ := lw_room hxA hxB hGA hrA (by omega) hqB (mx_Ca_le hcB)
  refine W.eq (g2 := F0 m 1483 la ((([.int (xs (i + 1))] : List Value).map (mx_v (tB l D s.heap.size ad s.heap tau).2.1.1)).reverse ++ .ref (mx_rho (tB l D s.heap.size ad s.heap tau).2.1.1 56) :: [])) rfl ?_
  refine mx_Wcallv (B := (tB l D s.heap.size ad s.heap tau)) (ci := 12) (r := cr_12) (n := 1) A dl_1483 me_282 rfl (hxA.obj (lt83 (GI_n hGA) rfl) (GI_s hGA 56 rfl)) (tw lx_8_128 rfl) (tw lx_8_129 rfl) (tw lx_8_127 rfl) hcB rfl hl.1 (by exact Nat.le_of_ble_eq_true rfl) hRA hLoA (by decide) (by decide) ⟨by show nA - 1 + (hB.1 - hA.1) ≤ 600000; rw [zcB]; exact rcB, by show _ + (hB.2.1 - hA.2.1) ≤ 7302250; rw [zsB]; exact rsB⟩ (fun HB locsB hRB hLoB => ?_)
  refine W.cs zcB zsB ?_
  have hLB1 : RL1 ZB := RL1_rv heB1 (RL1_rv heA1 hLZ.1)
  have hLB2 : RL2 ZB := rl_132 hLZ.2.1 hLZ.2.2.1 heA3 heA2 hpA heB2 hpB (hGA.pr 36 1).1
  have hLB3 : RL3 ZB := RL3_rv heB3 (RL3_rv heA3 hLZ.2.2.1)
  have hLB4 : RL4 ZB := RL4_rv hGA heB4 (RL4_rv hGZ heA4 hLZ.2.2.2)
  have hLB : RL ZB := ⟨hLB1, hLB2, hLB3, hLB4⟩
  refine W.eq (g2 := F0 m 1486 la (xI zB :: [])) rfl ?_
  refine lv_pop hx0 hb dl_1486 rfl ?_
  refine lv_goto (tgt := 1513) hx0 hb dl_1487 (by decide) ?_
  exact K HB locsB (nB - 1) wB ⟨nB, wB, SB, ZB, hB, hxB, ⟨hGB, hLB⟩, hRB, hLoB, hl, ⟨by have := hrB.1; omega, hrB.2⟩, rfl, rfl⟩
set_option maxHeartbeats 4000000 in
set_option maxRecDepth 100000 in
theorem lc_44 (C0 : lw_At p s m meth c b L xs) (hL : L ≤ 3072) (A : mx_Wx (tB l D s.heap.size ad s.heap tau) p s m #[Value.ref b] c code 4 R_law) {i : Nat} (hi : i + 6 ≤ L) {ph : Int} (hph : ph ≤ 10489) (hI : lw_I (tB l D s.heap.size ad s.heap tau) s b i ph H locs la cells slots) (K : ∀ (H : Heap) (locs : List Loc) (cells slots : Nat), lw_I (tB l D s.heap.size ad s.heap tau) s b i (ph + 20) H locs la cells slots → W p l e room_1 s m #[Value.ref b] below meth c H locs cells slots Q (F0 m 1513 la [])) : W p l e room_1 s m #[Value.ref b] below meth c H locs cells slots Q (F0 m 1490 la []) := by
  obtain ⟨hx0, hb, hr, hml, hown, hts, hX, hbl, hlocks, hgv⟩ := id C0
  obtain ⟨nZ, wZ, SZ, ZZ, hZ, hxZ, ⟨hGZ, hLZ⟩, hRZ, hLoZ, hl, hrZ, rfl, rfl⟩ := hI
  have qZ : 0 ≤ ZZ 1 1 ∧ ZZ 1 1 ≤ 900 := hGZ.pr 1 1
  have hS := lw_S hRZ hLoZ
  refine lv_aload_n hx0 hb dl_1490 rfl (lv_at hl 1 rfl) ?_
  refine lw_arg C0 hS hl (j := 1) (x := 1) (by omega) hL (by decide) (by decide +kernel) dl_1491 dl_1492 dl_1493 dl_1494 dl_1495 ?_
  obtain ⟨zA, nA, wA, SA, ZA, hA, hcA, hxA, hGA, hqA, heA1, heA2, heA3, heA4⟩ := sf_133 (l := l) (D := D) (b0 := s.heap.size) (ad := ad) (Hb := s.heap) (tau := tau) (x0 := (xs (i + 1)).toInt) hxZ hGZ (iI_x (xs (i + 1))) (by omega)
  rw [eI (xs (i + 1))] at hcA
  obtain ⟨⟨zcA, zsA⟩, ⟨rcA, rsA⟩, hrA⟩ := lw_room hxZ hxA hGZ hrZ (by omega) hqA (mx_Ca_le hcA)
  refine W.eq (g2 := F0 m 1496 la ((([.int (xs (i + 1))] : List Value).map (mx_v (tB l D s.heap.size ad s.heap tau).2.1.1)).reverse ++ .ref (mx_rho (tB l D s.heap.size ad s.heap tau).2.1.1 1) :: [])) rfl ?_
  refine mx_Wcallv (B := (tB l D s.heap.size ad s.heap tau)) (ci := 11) (r := cr_11) (n := 1) A dl_1496 me_133 rfl (hxZ.obj (lt83 (GI_n hGZ) rfl) (GI_s hGZ 1 rfl)) (tw lx_5_186 rfl) (tw lx_5_187 rfl) (tw lx_5_185 rfl) hcA rfl hl.1 (by exact Nat.le_of_ble_eq_true rfl) hRZ hLoZ (by decide) (by decide) ⟨by show nZ - 1 + (hA.1 - hZ.1) ≤ 600000; rw [zcA]; exact rcA, by show _ + (hA.2.1 - hZ.2.1) ≤ 7302250; rw [zsA]; exact rsA⟩ (fun HA locsA hRA hLoA => ?_)
  refine W.cs zcA zsA ?_
  have qA : 0 ≤ ZA 1 1 ∧ ZA 1 1 ≤ 900 := hGA.pr 1 1
  have hS1 := lw_S hRA hLoA
  clear hS
  have hS := hS1
  refine W.eq (g2 := F0 m 1499 la (xI zA :: [])) rfl ?_
  refine lv_pop hx0 hb dl_1499 rfl ?_
  refine lv_aload_n hx0 hb dl_1500 rfl (lv_at hl 2 rfl) ?_
  refine lw_arg C0 hS hl (j := 1) (x := 1) (by omega) hL (by decide) (by decide +kernel) dl_1501 dl_1502 dl_1503 dl_1504 dl_1505 ?_
  obtain ⟨zB, nB, wB, SB, ZB, hB, hcB, hxB, hGB, hqB, heB1, heB2, heB3, heB4⟩ := sf_283 (l := l) (D := D) (b0 := s.heap.size) (ad := ad) (Hb := s.heap) (tau := tau) (x0 := (xs (i + 1)).toInt) hxA hGA (iI_x (xs (i + 1))) (by omega)
  rw [eI (xs (i + 1))] at hcB
  obtain ⟨⟨zcB, zsB⟩, ⟨rcB, rsB⟩, hrB⟩ := lw_room hxA hxB hGA hrA (by omega) hqB (mx_Ca_le hcB)
  refine W.eq (g2 := F0 m 1506 la ((([.int (xs (i + 1))] : List Value).map (mx_v (tB l D s.heap.size ad s.heap tau).2.1.1)).reverse ++ .ref (mx_rho (tB l D s.heap.size ad s.heap tau).2.1.1 56) :: [])) rfl ?_
  refine mx_Wcallv (B := (tB l D s.heap.size ad s.heap tau)) (ci := 12) (r := cr_12) (n := 1) A dl_1506 me_283 rfl (hxA.obj (lt83 (GI_n hGA) rfl) (GI_s hGA 56 rfl)) (tw lx_8_132 rfl) (tw lx_8_133 rfl) (tw lx_8_131 rfl) hcB rfl hl.1 (by exact Nat.le_of_ble_eq_true rfl) hRA hLoA (by decide) (by decide) ⟨by show nA - 1 + (hB.1 - hA.1) ≤ 600000; rw [zcB]; exact rcB, by show _ + (hB.2.1 - hA.2.1) ≤ 7302250; rw [zsB]; exact rsB⟩ (fun HB locsB hRB hLoB => ?_)
  refine W.cs zcB zsB ?_
  have hLB1 : RL1 ZB := RL1_rv heB1 (RL1_rv heA1 hLZ.1)
  have hLB2 : RL2 ZB := RL2_rv heB2 (RL2_rv heA2 hLZ.2.1)
  have hLB3 : RL3 ZB := RL3_rv heB3 (RL3_rv heA3 hLZ.2.2.1)
  have hLB4 : RL4 ZB := RL4_rv hGA heB4 (RL4_rv hGZ heA4 hLZ.2.2.2)
  have hLB : RL ZB := ⟨hLB1, hLB2, hLB3, hLB4⟩
  refine W.eq (g2 := F0 m 1509 la (xI zB :: [])) rfl ?_
  refine lv_pop hx0 hb dl_1509 rfl ?_
  refine lv_goto (tgt := 1513) hx0 hb dl_1510 (by decide) ?_
  exact K HB locsB (nB - 1) wB ⟨nB, wB, SB, ZB, hB, hxB, ⟨hGB, hLB⟩, hRB, hLoB, hl, ⟨by have := hrB.1; omega, hrB.2⟩, rfl, rfl⟩
end LAW
