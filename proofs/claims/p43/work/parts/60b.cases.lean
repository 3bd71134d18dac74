section LAW
variable {p : Program} {e : Env} {s : State} {m : MethodId} {below : List Frame} {meth : Method} {c : Code} {l : Launch} {b L : Nat} {xs : Nat → Int32} {D : va_G} {ad : Nat → Nat} {tau : Nat → Int64} {H : Heap} {locs : List Loc} {la : Array Slot} {cells slots : Nat} {Q : State → Prop}
set_option maxHeartbeats 4000000 in
set_option maxRecDepth 100000 in
theorem lc_12 (C0 : lw_At p s m meth c b L xs) (hL : L ≤ 3072) (A : mx_Wx (tB l D s.heap.size ad s.heap tau) p s m #[Value.ref b] c code 4 R_law) {i : Nat} (hi : i + 6 ≤ L) {ph : Int} (hph : ph ≤ 10489) (hI : lw_I (tB l D s.heap.size ad s.heap tau) s b i ph H locs la cells slots) (K : ∀ (H : Heap) (locs : List Loc) (cells slots : Nat), lw_I (tB l D s.heap.size ad s.heap tau) s b i (ph + 20) H locs la cells slots → W p l e room_1 s m #[Value.ref b] below meth c H locs cells slots Q (F0 m 1513 la [])) : W p l e room_1 s m #[Value.ref b] below meth c H locs cells slots Q (F0 m 574 la []) := by
  obtain ⟨hx0, hb, hr, hml, hown, hts, hX, hbl, hlocks, hgv⟩ := id C0
  obtain ⟨nZ, wZ, SZ, ZZ, hZ, hxZ, ⟨hGZ, hLZ⟩, hRZ, hLoZ, hl, hrZ, rfl, rfl⟩ := hI
  have qZ : 0 ≤ ZZ 1 1 ∧ ZZ 1 1 ≤ 900 := hGZ.pr 1 1
  have hS := lw_S hRZ hLoZ
  refine lv_aload_n hx0 hb dl_574 rfl (lv_at hl 1 rfl) ?_
  refine lw_arg C0 hS hl (j := 1) (x := 1) (by omega) hL (by decide) (by decide +kernel) dl_575 dl_576 dl_577 dl_578 dl_579 ?_
  refine lw_arg C0 hS hl (j := 2) (x := 2) (by omega) hL (by decide) (by decide +kernel) dl_580 dl_581 dl_582 dl_583 dl_584 ?_
  obtain ⟨zA, nA, wA, SA, ZA, hA, hcA, hxA, hGA, hqA, heA1, heA2, heA3, heA4⟩ := sf_101 (l := l) (D := D) (b0 := s.heap.size) (ad := ad) (Hb := s.heap) (tau := tau) (x0 := (xs (i + 1)).toInt) (x1 := (xs (i + 2)).toInt) hxZ hGZ (iI_x (xs (i + 1))) (iI_x (xs (i + 2))) (by omega)
  rw [eI (xs (i + 1)), eI (xs (i + 2))] at hcA
  obtain ⟨⟨zcA, zsA⟩, ⟨rcA, rsA⟩, hrA⟩ := lw_room hxZ hxA hGZ hrZ (by omega) hqA (mx_Ca_le hcA)
  refine W.eq (g2 := F0 m 585 la ((([.int (xs (i + 1)), .int (xs (i + 2))] : List Value).map (mx_v (tB l D s.heap.size ad s.heap tau).2.1.1)).reverse ++ .ref (mx_rho (tB l D s.heap.size ad s.heap tau).2.1.1 1) :: [])) rfl ?_
  refine mx_Wcallv (B := (tB l D s.heap.size ad s.heap tau)) (ci := 11) (r := cr_11) (n := 2) A dl_585 me_101 rfl (hxZ.obj (lt83 (GI_n hGZ) rfl) (GI_s hGZ 1 rfl)) (tw lx_4_65 rfl) (tw lx_4_66 rfl) (tw lx_4_64 rfl) hcA rfl hl.1 (by exact Nat.le_of_ble_eq_true rfl) hRZ hLoZ (by decide) (by decide) ⟨by show nZ - 1 + (hA.1 - hZ.1) ≤ 600000; rw [zcA]; exact rcA, by show _ + (hA.2.1 - hZ.2.1) ≤ 7302250; rw [zsA]; exact rsA⟩ (fun HA locsA hRA hLoA => ?_)
  refine W.cs zcA zsA ?_
  have qA : 0 ≤ ZA 1 1 ∧ ZA 1 1 ≤ 900 := hGA.pr 1 1
  have hS1 := lw_S hRA hLoA
  clear hS
  have hS := hS1
  refine W.eq (g2 := F0 m 588 la (xI zA :: [])) rfl ?_
  refine lv_pop hx0 hb dl_588 rfl ?_
  refine lv_aload_n hx0 hb dl_589 rfl (lv_at hl 2 rfl) ?_
  refine lw_arg C0 hS hl (j := 1) (x := 1) (by omega) hL (by decide) (by decide +kernel) dl_590 dl_591 dl_592 dl_593 dl_594 ?_
  refine lw_arg C0 hS hl (j := 2) (x := 2) (by omega) hL (by decide) (by decide +kernel) dl_595 dl_596 dl_597 dl_598 dl_599 ?_
  obtain ⟨zB, nB, wB, SB, ZB, hB, hcB, hxB, hGB, hqB, heB1, heB2, heB3, heB4⟩ := sf_221 (l := l) (D := D) (b0 := s.heap.size) (ad := ad) (Hb := s.heap) (tau := tau) (x0 := (xs (i + 1)).toInt) (x1 := (xs (i + 2)).toInt) hxA hGA (iI_x (xs (i + 1))) (iI_x (xs (i + 2))) (by omega)
  rw [eI (xs (i + 1)), eI (xs (i + 2))] at hcB
  obtain ⟨⟨zcB, zsB⟩, ⟨rcB, rsB⟩, hrB⟩ := lw_room hxA hxB hGA hrA (by omega) hqB (mx_Ca_le hcB)
  refine W.eq (g2 := F0 m 600 la ((([.int (xs (i + 1)), .int (xs (i + 2))] : List Value).map (mx_v (tB l D s.heap.size ad s.heap tau).2.1.1)).reverse ++ .ref (mx_rho (tB l D s.heap.size ad s.heap tau).2.1.1 56) :: [])) rfl ?_
  refine mx_Wcallv (B := (tB l D s.heap.size ad s.heap tau)) (ci := 12) (r := cr_12) (n := 2) A dl_600 me_221 rfl (hxA.obj (lt83 (GI_n hGA) rfl) (GI_s hGA 56 rfl)) (tw lx_7_89 rfl) (tw lx_7_90 rfl) (tw lx_7_88 rfl) hcB rfl hl.1 (by exact Nat.le_of_ble_eq_true rfl) hRA hLoA (by decide) (by decide) ⟨by show nA - 1 + (hB.1 - hA.1) ≤ 600000; rw [zcB]; exact rcB, by show _ + (hB.2.1 - hA.2.1) ≤ 7302250; rw [zsB]; exact rsB⟩ (fun HB locsB hRB hLoB => ?_)
  refine W.cs zcB zsB ?_
  have hLB1 : RL1 ZB := RL1_rv heB1 (RL1_rv heA1 hLZ.1)
  have hLB2 : RL2 ZB := RL2_rv heB2 (RL2_rv heA2 hLZ.2.1)
  have hLB3 : RL3 ZB := RL3_rv heB3 (RL3_rv heA3 hLZ.2.2.1)
  have hLB4 : RL4 ZB := RL4_rv hGA heB4 (RL4_rv hGZ heA4 hLZ.2.2.2)
  have hLB : RL ZB := ⟨hLB1, hLB2, hLB3, hLB4⟩
  refine W.eq (g2 := F0 m 603 la (xI zB :: [])) rfl ?_
  refine lv_pop hx0 hb dl_603 rfl ?_
  refine lv_goto (tgt := 1513) hx0 hb dl_604 (by decide) ?_
  exact K HB locsB (nB - 1) wB ⟨nB, wB, SB, ZB, hB, hxB, ⟨hGB, hLB⟩, hRB, hLoB, hl, ⟨by have := hrB.1; omega, hrB.2⟩, rfl, rfl⟩
set_option maxHeartbeats 4000000 in
set_option maxRecDepth 100000 in
theorem lc_13 (C0 : lw_At p s m meth c b L xs) (hL : L ≤ 3072) (A : mx_Wx (tB l D s.heap.size ad s.heap tau) p s m #[Value.ref b] c code 4 R_law) {i : Nat} (hi : i + 6 ≤ L) {ph : Int} (hph : ph ≤ 10489) (hI : lw_I (tB l D s.heap.size ad s.heap tau) s b i ph H locs la cells slots) (K : ∀ (H : Heap) (locs : List Loc) (cells slots : Nat), lw_I (tB l D s.heap.size ad s.heap tau) s b i (ph + 20) H locs la cells slots → W p l e room_1 s m #[Value.ref b] below meth c H locs cells slots Q (F0 m 1513 la [])) : W p l e room_1 s m #[Value.ref b] below meth c H locs cells slots Q (F0 m 607 la []) := by
  obtain ⟨hx0, hb, hr, hml, hown, hts, hX, hbl, hlocks, hgv⟩ := id C0
  obtain ⟨nZ, wZ, SZ, ZZ, hZ, hxZ, ⟨hGZ, hLZ⟩, hRZ, hLoZ, hl, hrZ, rfl, rfl⟩ := hI
  have qZ : 0 ≤ ZZ 1 1 ∧ ZZ 1 1 ≤ 900 := hGZ.pr 1 1
  have hS := lw_S hRZ hLoZ
  refine lv_aload_n hx0 hb dl_607 rfl (lv_at hl 1 rfl) ?_
  refine lw_arg C0 hS hl (j := 1) (x := 1) (by omega) hL (by decide) (by decide +kernel) dl_608 dl_609 dl_610 dl_611 dl_612 ?_
  obtain ⟨zA, nA, wA, SA, ZA, hA, hcA, hxA, hGA, hqA, heA1, heA2, heA3, heA4⟩ := sf_102 (l := l) (D := D) (b0 := s.heap.size) (ad := ad) (Hb := s.heap) (tau := tau) (x0 := (xs (i + 1)).toInt) hxZ hGZ (iI_x (xs (i + 1))) (by omega)
  rw [eI (xs (i + 1))] at hcA
  obtain ⟨⟨zcA, zsA⟩, ⟨rcA, rsA⟩, hrA⟩ := lw_room hxZ hxA hGZ hrZ (by omega) hqA (mx_Ca_le hcA)
  refine W.eq (g2 := F0 m 613 la ((([.int (xs (i + 1))] : List Value).map (mx_v (tB l D s.heap.size ad s.heap tau).2.1.1)).reverse ++ .ref (mx_rho (tB l D s.heap.size ad s.heap tau).2.1.1 1) :: [])) rfl ?_
  refine mx_Wcallv (B := (tB l D s.heap.size ad s.heap tau)) (ci := 11) (r := cr_11) (n := 1) A dl_613 me_102 rfl (hxZ.obj (lt83 (GI_n hGZ) rfl) (GI_s hGZ 1 rfl)) (tw lx_4_86 rfl) (tw lx_4_87 rfl) (tw lx_4_85 rfl) hcA rfl hl.1 (by exact Nat.le_of_ble_eq_true rfl) hRZ hLoZ (by decide) (by decide) ⟨by show nZ - 1 + (hA.1 - hZ.1) ≤ 600000; rw [zcA]; exact rcA, by show _ + (hA.2.1 - hZ.2.1) ≤ 7302250; rw [zsA]; exact rsA⟩ (fun HA locsA hRA hLoA => ?_)
  refine W.cs zcA zsA ?_
  have qA : 0 ≤ ZA 1 1 ∧ ZA 1 1 ≤ 900 := hGA.pr 1 1
  have hS1 := lw_S hRA hLoA
  clear hS
  have hS := hS1
  refine W.eq (g2 := F0 m 616 la (xI zA :: [])) rfl ?_
  refine lv_pop hx0 hb dl_616 rfl ?_
  refine lv_aload_n hx0 hb dl_617 rfl (lv_at hl 2 rfl) ?_
  refine lw_arg C0 hS hl (j := 1) (x := 1) (by omega) hL (by decide) (by decide +kernel) dl_618 dl_619 dl_620 dl_621 dl_622 ?_
  obtain ⟨zB, nB, wB, SB, ZB, hB, hcB, hxB, hGB, hqB, heB1, heB2, heB3, heB4⟩ := sf_222 (l := l) (D := D) (b0 := s.heap.size) (ad := ad) (Hb := s.heap) (tau := tau) (x0 := (xs (i + 1)).toInt) hxA hGA (iI_x (xs (i + 1))) (by omega)
  rw [eI (xs (i + 1))] at hcB
  obtain ⟨⟨zcB, zsB⟩, ⟨rcB, rsB⟩, hrB⟩ := lw_room hxA hxB hGA hrA (by omega) hqB (mx_Ca_le hcB)
  refine W.eq (g2 := F0 m 623 la ((([.int (xs (i + 1))] : List Value).map (mx_v (tB l D s.heap.size ad s.heap tau).2.1.1)).reverse ++ .ref (mx_rho (tB l D s.heap.size ad s.heap tau).2.1.1 56) :: [])) rfl ?_
  refine mx_Wcallv (B := (tB l D s.heap.size ad s.heap tau)) (ci := 12) (r := cr_12) (n := 1) A dl_623 me_222 rfl (hxA.obj (lt83 (GI_n hGA) rfl) (GI_s hGA 56 rfl)) (tw lx_7_120 rfl) (tw lx_7_121 rfl) (tw lx_7_119 rfl) hcB rfl hl.1 (by exact Nat.le_of_ble_eq_true rfl) hRA hLoA (by decide) (by decide) ⟨by show nA - 1 + (hB.1 - hA.1) ≤ 600000; rw [zcB]; exact rcB, by show _ + (hB.2.1 - hA.2.1) ≤ 7302250; rw [zsB]; exact rsB⟩ (fun HB locsB hRB hLoB => ?_)
  refine W.cs zcB zsB ?_
  have hLB1 : RL1 ZB := RL1_rv heB1 (RL1_rv heA1 hLZ.1)
  have hLB2 : RL2 ZB := RL2_rv heB2 (RL2_rv heA2 hLZ.2.1)
  have hLB3 : RL3 ZB := RL3_rv heB3 (RL3_rv heA3 hLZ.2.2.1)
  have hLB4 : RL4 ZB := RL4_rv hGA heB4 (RL4_rv hGZ heA4 hLZ.2.2.2)
  have hLB : RL ZB := ⟨hLB1, hLB2, hLB3, hLB4⟩
  refine W.eq (g2 := F0 m 626 la (xI zB :: [])) rfl ?_
  refine lv_pop hx0 hb dl_626 rfl ?_
  refine lv_goto (tgt := 1513) hx0 hb dl_627 (by decide) ?_
  exact K HB locsB (nB - 1) wB ⟨nB, wB, SB, ZB, hB, hxB, ⟨hGB, hLB⟩, hRB, hLoB, hl, ⟨by have := hrB.1; omega, hrB.2⟩, rfl, rfl⟩
set_option maxHeartbeats 4000000 in
set_option maxRecDepth 100000 in
theorem lc_14 (C0 : lw_At p s m meth c b L xs) (hL : L ≤ 3072) (A : mx_Wx (tB l D s.heap.size ad s.heap tau) p s m #[Value.ref b] c code 4 R_law) {i : Nat} (hi : i + 6 ≤ L) {ph : Int} (hph : ph ≤ 10489) (hI : lw_I (tB l D s.heap.size ad s.heap tau) s b i ph H locs la cells slots) (K : ∀ (H : Heap) (locs : List Loc) (cells slots : Nat), lw_I (tB l D s.heap.size ad s.heap tau) s b i (ph + 20) H locs la cells slots → W p l e room_1 s m #[Value.ref b] below meth c H locs cells slots Q (F0 m 1513 la [])) : W p l e room_1 s m #[Value.ref b] below meth c H locs cells slots Q (F0 m 630 la []) := by
  obtain ⟨hx0, hb, hr, hml, hown, hts, hX, hbl, hlocks, hgv⟩ := id C0
  obtain ⟨nZ, wZ, SZ, ZZ, hZ, hxZ, ⟨hGZ, hLZ⟩, hRZ, hLoZ, hl, hrZ, rfl, rfl⟩ := hI
  have qZ : 0 ≤ ZZ 1 1 ∧ ZZ 1 1 ≤ 900 := hGZ.pr 1 1
  have hS := lw_S hRZ hLoZ
  refine lv_aload_n hx0 hb dl_630 rfl (lv_at hl 1 rfl) ?_
  refine lw_arg C0 hS hl (j := 1) (x := 1) (by omega) hL (by decide) (by decide +kernel) dl_631 dl_632 dl_633 dl_634 dl_635 ?_
  refine lw_arg C0 hS hl (j := 2) (x := 2) (by omega) hL (by decide) (by decide +kernel) dl_636 dl_637 dl_638 dl_639 dl_640 ?_
  obtain ⟨zA, nA, wA, SA, ZA, hA, hcA, hxA, hGA, hqA, heA1, heA2, heA3, heA4⟩ := sf_103 (l := l) (D := D) (b0 := s.heap.size) (ad := ad) (Hb := s.heap) (tau := tau) (x0 := (xs (i + 1)).toInt) (x1 := (xs (i + 2)).toInt) hxZ hGZ (iI_x (xs (i + 1))) (iI_x (xs (i + 2))) (by omega)
  rw [eI (xs (i + 1)), eI (xs (i + 2))] at hcA
  obtain ⟨⟨zcA, zsA⟩, ⟨rcA, rsA⟩, hrA⟩ := lw_room hxZ hxA hGZ hrZ (by omega) hqA (mx_Ca_le hcA)
  refine W.eq (g2 := F0 m 641 la ((([.int (xs (i + 1)), .int (xs (i + 2))] : List Value).map (mx_v (tB l D s.heap.size ad s.heap tau).2.1.1)).reverse ++ .ref (mx_rho (tB l D s.heap.size ad s.heap tau).2.1.1 1) :: [])) rfl ?_
  refine mx_Wcallv (B := (tB l D s.heap.size ad s.heap tau)) (ci := 11) (r := cr_11) (n := 2) A dl_641 me_103 rfl (hxZ.obj (lt83 (GI_n hGZ) rfl) (GI_s hGZ 1 rfl)) (tw lx_4_90 rfl) (tw lx_4_91 rfl) (tw lx_4_89 rfl) hcA rfl hl.1 (by exact Nat.le_of_ble_eq_true rfl) hRZ hLoZ (by decide) (by decide) ⟨by show nZ - 1 + (hA.1 - hZ.1) ≤ 600000; rw [zcA]; exact rcA, by show _ + (hA.2.1 - hZ.2.1) ≤ 7302250; rw [zsA]; exact rsA⟩ (fun HA locsA hRA hLoA => ?_)
  refine W.cs zcA zsA ?_
  have qA : 0 ≤ ZA 1 1 ∧ ZA 1 1 ≤ 900 := hGA.pr 1 1
  have hS1 := lw_S hRA hLoA
  clear hS
  have hS := hS1
  refine W.eq (g2 := F0 m 644 la (xI zA :: [])) rfl ?_
  refine lv_pop hx0 hb dl_644 rfl ?_
  refine lv_aload_n hx0 hb dl_645 rfl (lv_at hl 2 rfl) ?_
  refine lw_arg C0 hS hl (j := 1) (x := 1) (by omega) hL (by decide) (by decide +kernel) dl_646 dl_647 dl_648 dl_649 dl_650 ?_
  refine lw_arg C0 hS hl (j := 2) (x := 2) (by omega) hL (by decide) (by decide +kernel) dl_651 dl_652 dl_653 dl_654 dl_655 ?_
  obtain ⟨zB, nB, wB, SB, ZB, hB, hcB, hxB, hGB, hqB, heB1, heB2, heB3, heB4⟩ := sf_225 (l := l) (D := D) (b0 := s.heap.size) (ad := ad) (Hb := s.heap) (tau := tau) (x0 := (xs (i + 1)).toInt) (x1 := (xs (i + 2)).toInt) hxA hGA (iI_x (xs (i + 1))) (iI_x (xs (i + 2))) (by omega)
  rw [eI (xs (i + 1)), eI (xs (i + 2))] at hcB
  obtain ⟨⟨zcB, zsB⟩, ⟨rcB, rsB⟩, hrB⟩ := lw_room hxA hxB hGA hrA (by omega) hqB (mx_Ca_le hcB)
  refine W.eq (g2 := F0 m 656 la ((([.int (xs (i + 1)), .int (xs (i + 2))] : List Value).map (mx_v (tB l D s.heap.size ad s.heap tau).2.1.1)).reverse ++ .ref (mx_rho (tB l D s.heap.size ad s.heap tau).2.1.1 56) :: [])) rfl ?_
  refine mx_Wcallv (B := (tB l D s.heap.size ad s.heap tau)) (ci := 12) (r := cr_12) (n := 2) A dl_656 me_225 rfl (hxA.obj (lt83 (GI_n hGA) rfl) (GI_s hGA 56 rfl)) (tw lx_7_124 rfl) (tw lx_7_125 rfl) (tw lx_7_123 rfl) hcB rfl hl.1 (by exact Nat.le_of_ble_eq_true rfl) hRA hLoA (by decide) (by decide) ⟨by show nA - 1 + (hB.1 - hA.1) ≤ 600000; rw [zcB]; exact rcB, by show _ + (hB.2.1 - hA.2.1) ≤ 7302250; rw [zsB]; exact rsB⟩ (fun HB locsB hRB hLoB => ?_)
  refine W.cs zcB zsB ?_
  have hLB1 : RL1 ZB := RL1_rv heB1 (RL1_rv heA1 hLZ.1)
  have hLB2 : RL2 ZB := RL2_rv heB2 (RL2_rv heA2 hLZ.2.1)
  have hLB3 : RL3 ZB := RL3_rv heB3 (RL3_rv heA3 hLZ.2.2.1)
  have hLB4 : RL4 ZB := RL4_rv hGA heB4 (RL4_rv hGZ heA4 hLZ.2.2.2)
  have hLB : RL ZB := ⟨hLB1, hLB2, hLB3, hLB4⟩
  refine W.eq (g2 := F0 m 659 la (xI zB :: [])) rfl ?_
  refine lv_pop hx0 hb dl_659 rfl ?_
  refine lv_goto (tgt := 1513) hx0 hb dl_660 (by decide) ?_
  exact K HB locsB (nB - 1) wB ⟨nB, wB, SB, ZB, hB, hxB, ⟨hGB, hLB⟩, hRB, hLoB, hl, ⟨by have := hrB.1; omega, hrB.2⟩, rfl, rfl⟩
set_option maxHeartbeats 4000000 in
set_option maxRecDepth 100000 in
theorem lc_15 (C0 : lw_At p s m meth c b L xs) (hL : L ≤ 3072) (A : mx_Wx (tB l D s.heap.size ad s.heap tau) p s m #[Value.ref b] c code 4 R_law) {i : Nat} (hi : i + 6 ≤ L) {ph : Int} (hph : ph ≤ 10489) (hI : lw_I (tB l D s.heap.size ad s.heap tau) s b i ph H locs la cells slots) (K : ∀ (H : Heap) (locs : List Loc) (cells slots : Nat), lw_I (tB l D s.heap.size ad s.heap tau) s b i (ph + 20) H locs la cells slots → W p l e room_1 s m #[Value.ref b] below meth c H locs cells slots Q (F0 m 1513 la [])) : W p l e room_1 s m #[Value.ref b] below meth c H locs cells slots Q (F0 m 663 la []) := by
  obtain ⟨hx0, hb, hr, hml, hown, hts, hX, hbl, hlocks, hgv⟩ := id C0
  obtain ⟨nZ, wZ, SZ, ZZ, hZ, hxZ, ⟨hGZ, hLZ⟩, hRZ, hLoZ, hl, hrZ, rfl, rfl⟩ := hI
  have qZ : 0 ≤ ZZ 1 1 ∧ ZZ 1 1 ≤ 900 := hGZ.pr 1 1
  have hS := lw_S hRZ hLoZ
  refine lv_aload_n hx0 hb dl_663 rfl (lv_at hl 1 rfl) ?_
  refine lw_arg C0 hS hl (j := 1) (x := 1) (by omega) hL (by decide) (by decide +kernel) dl_664 dl_665 dl_666 dl_667 dl_668 ?_
  refine lv_i2l hx0 hb dl_669 rfl ?_
  refine lv_bipush (v := 32) hx0 hb dl_670 (by decide) ?_
  refine lv_lshl hx0 hb dl_672 rfl ?_
  refine lw_arg C0 hS hl (j := 2) (x := 2) (by omega) hL (by decide) (by decide +kernel) dl_673 dl_674 dl_675 dl_676 dl_677 ?_
  refine lv_i2l hx0 hb dl_678 rfl ?_
  refine W.ldc2 hx0 hb hown (hts _ lx_8_135) rfl dl_679 ?_
  refine lv_land hx0 hb dl_682 ?_
  refine lv_lor hx0 hb dl_683 ?_
  obtain ⟨zA, nA, wA, SA, ZA, hA, hcA, hxA, hGA, hqA, heA1, heA2, heA3, heA4⟩ := sf_104 (l := l) (D := D) (b0 := s.heap.size) (ad := ad) (Hb := s.heap) (tau := tau) (x0 := ((xs (i + 1)).toInt64 <<< ((32 : Int32).toInt64 &&& 63) ||| ((xs (i + 2)).toInt64 &&& 4294967295)).toInt) hxZ hGZ (iL_x ((xs (i + 1)).toInt64 <<< ((32 : Int32).toInt64 &&& 63) ||| ((xs (i + 2)).toInt64 &&& 4294967295))) (by omega)
  rw [eL ((xs (i + 1)).toInt64 <<< ((32 : Int32).toInt64 &&& 63) ||| ((xs (i + 2)).toInt64 &&& 4294967295))] at hcA
  obtain ⟨⟨zcA, zsA⟩, ⟨rcA, rsA⟩, hrA⟩ := lw_room hxZ hxA hGZ hrZ (by omega) hqA (mx_Ca_le hcA)
  refine W.eq (g2 := F0 m 684 la ((([.long ((xs (i + 1)).toInt64 <<< ((32 : Int32).toInt64 &&& 63) ||| ((xs (i + 2)).toInt64 &&& 4294967295))] : List Value).map (mx_v (tB l D s.heap.size ad s.heap tau).2.1.1)).reverse ++ .ref (mx_rho (tB l D s.heap.size ad s.heap tau).2.1.1 1) :: [])) rfl ?_
  refine mx_Wcallv (B := (tB l D s.heap.size ad s.heap tau)) (ci := 11) (r := cr_11) (n := 1) A dl_684 me_104 rfl (hxZ.obj (lt83 (GI_n hGZ) rfl) (GI_s hGZ 1 rfl)) (tw lx_4_113 rfl) (tw lx_4_114 rfl) (tw lx_4_112 rfl) hcA rfl hl.1 (by exact Nat.le_of_ble_eq_true rfl) hRZ hLoZ (by decide) (by decide) ⟨by show nZ - 1 + (hA.1 - hZ.1) ≤ 600000; rw [zcA]; exact rcA, by show _ + (hA.2.1 - hZ.2.1) ≤ 7302250; rw [zsA]; exact rsA⟩ (fun HA locsA hRA hLoA => ?_)
  refine W.cs zcA zsA ?_
  have qA : 0 ≤ ZA 1 1 ∧ ZA 1 1 ≤ 900 := hGA.pr 1 1
  have hS1 := lw_S hRA hLoA
  clear hS
  have hS := hS1
  refine W.eq (g2 := F0 m 687 la (xI zA :: [])) rfl ?_
  refine lv_pop hx0 hb dl_687 rfl ?_
  refine lv_aload_n hx0 hb dl_688 rfl (lv_at hl 2 rfl) ?_
  refine lw_arg C0 hS hl (j := 1) (x := 1) (by omega) hL (by decide) (by decide +kernel) dl_689 dl_690 dl_691 dl_692 dl_693 ?_
  refine lv_i2l hx0 hb dl_694 rfl ?_
  refine lv_bipush (v := 32) hx0 hb dl_695 (by decide) ?_
  refine lv_lshl hx0 hb dl_697 rfl ?_
  refine lw_arg C0 hS hl (j := 2) (x := 2) (by omega) hL (by decide) (by decide +kernel) dl_698 dl_699 dl_700 dl_701 dl_702 ?_
  refine lv_i2l hx0 hb dl_703 rfl ?_
  refine W.ldc2 hx0 hb hown (hts _ lx_8_135) rfl dl_704 ?_
  refine lv_land hx0 hb dl_707 ?_
  refine lv_lor hx0 hb dl_708 ?_
  obtain ⟨zB, nB, wB, SB, ZB, hB, hcB, hxB, hGB, hqB, heB1, heB2, heB3, heB4⟩ := sf_228 (l := l) (D := D) (b0 := s.heap.size) (ad := ad) (Hb := s.heap) (tau := tau) (x0 := ((xs (i + 1)).toInt64 <<< ((32 : Int32).toInt64 &&& 63) ||| ((xs (i + 2)).toInt64 &&& 4294967295)).toInt) hxA hGA (iL_x ((xs (i + 1)).toInt64 <<< ((32 : Int32).toInt64 &&& 63) ||| ((xs (i + 2)).toInt64 &&& 4294967295))) (by omega)
  rw [eL ((xs (i + 1)).toInt64 <<< ((32 : Int32).toInt64 &&& 63) ||| ((xs (i + 2)).toInt64 &&& 4294967295))] at hcB
  obtain ⟨⟨zcB, zsB⟩, ⟨rcB, rsB⟩, hrB⟩ := lw_room hxA hxB hGA hrA (by omega) hqB (mx_Ca_le hcB)
  refine W.eq (g2 := F0 m 709 la ((([.long ((xs (i + 1)).toInt64 <<< ((32 : Int32).toInt64 &&& 63) ||| ((xs (i + 2)).toInt64 &&& 4294967295))] : List Value).map (mx_v (tB l D s.heap.size ad s.heap tau).2.1.1)).reverse ++ .ref (mx_rho (tB l D s.heap.size ad s.heap tau).2.1.1 56) :: [])) rfl ?_
  refine mx_Wcallv (B := (tB l D s.heap.size ad s.heap tau)) (ci := 12) (r := cr_12) (n := 1) A dl_709 me_228 rfl (hxA.obj (lt83 (GI_n hGA) rfl) (GI_s hGA 56 rfl)) (tw lx_7_138 rfl) (tw lx_7_139 rfl) (tw lx_7_137 rfl) hcB rfl hl.1 (by exact Nat.le_of_ble_eq_true rfl) hRA hLoA (by decide) (by decide) ⟨by show nA - 1 + (hB.1 - hA.1) ≤ 600000; rw [zcB]; exact rcB, by show _ + (hB.2.1 - hA.2.1) ≤ 7302250; rw [zsB]; exact rsB⟩ (fun HB locsB hRB hLoB => ?_)
  refine W.cs zcB zsB ?_
  have hLB1 : RL1 ZB := RL1_rv heB1 (RL1_rv heA1 hLZ.1)
  have hLB2 : RL2 ZB := RL2_rv heB2 (RL2_rv heA2 hLZ.2.1)
  have hLB3 : RL3 ZB := RL3_rv heB3 (RL3_rv heA3 hLZ.2.2.1)
  have hLB4 : RL4 ZB := RL4_rv hGA heB4 (RL4_rv hGZ heA4 hLZ.2.2.2)
  have hLB : RL ZB := ⟨hLB1, hLB2, hLB3, hLB4⟩
  refine W.eq (g2 := F0 m 712 la (xI zB :: [])) rfl ?_
  refine lv_pop hx0 hb dl_712 rfl ?_
  refine lv_goto (tgt := 1513) hx0 hb dl_713 (by decide) ?_
  exact K HB locsB (nB - 1) wB ⟨nB, wB, SB, ZB, hB, hxB, ⟨hGB, hLB⟩, hRB, hLoB, hl, ⟨by have := hrB.1; omega, hrB.2⟩, rfl, rfl⟩
set_option maxHeartbeats 4000000 in
set_option maxRecDepth 100000 in
theorem lc_16 (C0 : lw_At p s m meth c b L xs) (hL : L ≤ 3072) (A : mx_Wx (tB l D s.heap.size ad s.heap tau) p s m #[Value.ref b] c code 4 R_law) {i : Nat} (hi : i + 6 ≤ L) {ph : Int} (hph : ph ≤ 10489) (hI : lw_I (tB l D s.heap.size ad s.heap tau) s b i ph H locs la cells slots) (K : ∀ (H : Heap) (locs : List Loc) (cells slots : Nat), lw_I (tB l D s.heap.size ad s.heap tau) s b i (ph + 20) H locs la cells slots → W p l e room_1 s m #[Value.ref b] below meth c H locs cells slots Q (F0 m 1513 la [])) : W p l e room_1 s m #[Value.ref b] below meth c H locs cells slots Q (F0 m 716 la []) := by
  obtain ⟨hx0, hb, hr, hml, hown, hts, hX, hbl, hlocks, hgv⟩ := id C0
  obtain ⟨nZ, wZ, SZ, ZZ, hZ, hxZ, ⟨hGZ, hLZ⟩, hRZ, hLoZ, hl, hrZ, rfl, rfl⟩ := hI
  have qZ : 0 ≤ ZZ 1 1 ∧ ZZ 1 1 ≤ 900 := hGZ.pr 1 1
  have hS := lw_S hRZ hLoZ
  refine lv_aload_n hx0 hb dl_716 rfl (lv_at hl 1 rfl) ?_
  refine lw_arg C0 hS hl (j := 1) (x := 1) (by omega) hL (by decide) (by decide +kernel) dl_717 dl_718 dl_719 dl_720 dl_721 ?_
  obtain ⟨zA, nA, wA, SA, ZA, hA, hcA, hxA, hGA, hqA, heA1, heA2, heA3, heA4⟩ := sf_105 (l := l) (D := D) (b0 := s.heap.size) (ad := ad) (Hb := s.heap) (tau := tau) (x0 := (xs (i + 1)).toInt) hxZ hGZ (iI_x (xs (i + 1))) (by omega)
  rw [eI (xs (i + 1))] at hcA
  obtain ⟨⟨zcA, zsA⟩, ⟨rcA, rsA⟩, hrA⟩ := lw_room hxZ hxA hGZ hrZ (by omega) hqA (mx_Ca_le hcA)
  refine W.eq (g2 := F0 m 722 la ((([.int (xs (i + 1))] : List Value).map (mx_v (tB l D s.heap.size ad s.heap tau).2.1.1)).reverse ++ .ref (mx_rho (tB l D s.heap.size ad s.heap tau).2.1.1 1) :: [])) rfl ?_
  refine mx_Wcallv (B := (tB l D s.heap.size ad s.heap tau)) (ci := 11) (r := cr_11) (n := 1) A dl_722 me_105 rfl (hxZ.obj (lt83 (GI_n hGZ) rfl) (GI_s hGZ 1 rfl)) (tw lx_4_134 rfl) (tw lx_4_135 rfl) (tw lx_4_133 rfl) hcA rfl hl.1 (by exact Nat.le_of_ble_eq_true rfl) hRZ hLoZ (by decide) (by decide) ⟨by show nZ - 1 + (hA.1 - hZ.1) ≤ 600000; rw [zcA]; exact rcA, by show _ + (hA.2.1 - hZ.2.1) ≤ 7302250; rw [zsA]; exact rsA⟩ (fun HA locsA hRA hLoA => ?_)
  refine W.cs zcA zsA ?_
  have qA : 0 ≤ ZA 1 1 ∧ ZA 1 1 ≤ 900 := hGA.pr 1 1
  have hS1 := lw_S hRA hLoA
  clear hS
  have hS := hS1
  refine W.eq (g2 := F0 m 725 la (xI zA :: [])) rfl ?_
  refine lv_pop hx0 hb dl_725 rfl ?_
  refine lv_aload_n hx0 hb dl_726 rfl (lv_at hl 2 rfl) ?_
  refine lw_arg C0 hS hl (j := 1) (x := 1) (by omega) hL (by decide) (by decide +kernel) dl_727 dl_728 dl_729 dl_730 dl_731 ?_
  obtain ⟨zB, nB, wB, SB, ZB, hB, hcB, hxB, hGB, hqB, heB1, heB2, heB3, heB4⟩ := sf_229 (l := l) (D := D) (b0 := s.heap.size) (ad := ad) (Hb := s.heap) (tau := tau) (x0 := (xs (i + 1)).toInt) hxA hGA (iI_x (xs (i + 1))) (by omega)
  rw [eI (xs (i + 1))] at hcB
  obtain ⟨⟨zcB, zsB⟩, ⟨rcB, rsB⟩, hrB⟩ := lw_room hxA hxB hGA hrA (by omega) hqB (mx_Ca_le hcB)
  refine W.eq (g2 := F0 m 732 la ((([.int (xs (i + 1))] : List Value).map (mx_v (tB l D s.heap.size ad s.heap tau).2.1.1)).reverse ++ .ref (mx_rho (tB l D s.heap.size ad s.heap tau).2.1.1 56) :: [])) rfl ?_
  refine mx_Wcallv (B := (tB l D s.heap.size ad s.heap tau)) (ci := 12) (r := cr_12) (n := 1) A dl_732 me_229 rfl (hxA.obj (lt83 (GI_n hGA) rfl) (GI_s hGA 56 rfl)) (tw lx_7_151 rfl) (tw lx_7_152 rfl) (tw lx_7_150 rfl) hcB rfl hl.1 (by exact Nat.le_of_ble_eq_true rfl) hRA hLoA (by decide) (by decide) ⟨by show nA - 1 + (hB.1 - hA.1) ≤ 600000; rw [zcB]; exact rcB, by show _ + (hB.2.1 - hA.2.1) ≤ 7302250; rw [zsB]; exact rsB⟩ (fun HB locsB hRB hLoB => ?_)
  refine W.cs zcB zsB ?_
  have hLB1 : RL1 ZB := RL1_rv heB1 (RL1_rv heA1 hLZ.1)
  have hLB2 : RL2 ZB := RL2_rv heB2 (RL2_rv heA2 hLZ.2.1)
  have hLB3 : RL3 ZB := RL3_rv heB3 (RL3_rv heA3 hLZ.2.2.1)
  have hLB4 : RL4 ZB := RL4_rv hGA heB4 (RL4_rv hGZ heA4 hLZ.2.2.2)
  have hLB : RL ZB := ⟨hLB1, hLB2, hLB3, hLB4⟩
  refine W.eq (g2 := F0 m 735 la (xI zB :: [])) rfl ?_
  refine lv_pop hx0 hb dl_735 rfl ?_
  refine lv_goto (tgt := 1513) hx0 hb dl_736 (by decide) ?_
  exact K HB locsB (nB - 1) wB ⟨nB, wB, SB, ZB, hB, hxB, ⟨hGB, hLB⟩, hRB, hLoB, hl, ⟨by have := hrB.1; omega, hrB.2⟩, rfl, rfl⟩
set_option maxHeartbeats 4000000 in
set_option maxRecDepth 100000 in
theorem lc_17 (C0 : lw_At p s m meth c b L xs) (hL : L ≤ 3072) (A : mx_Wx (tB l D s.heap.size ad s.heap tau) p s m #[Value.ref b] c code 4 R_law) {i : Nat} (hi : i + 6 ≤ L) {ph : Int} (hph : ph ≤ 10489) (hI : lw_I (tB l D s.heap.size ad s.heap tau) s b i ph H locs la cells slots) (K : ∀ (H : Heap) (locs : List Loc) (cells slots : Nat), lw_I (tB l D s.heap.size ad s.heap tau) s b i (ph + 20) H locs la cells slots → W p l e room_1 s m #[Value.ref b] below meth c H locs cells slots Q (F0 m 1513 la [])) : W p l e room_1 s m #[Value.ref b] below meth c H locs cells slots Q (F0 m 739 la []) := by
  obtain ⟨hx0, hb, hr, hml, hown, hts, hX, hbl, hlocks, hgv⟩ := id C0
  obtain ⟨nZ, wZ, SZ, ZZ, hZ, hxZ, ⟨hGZ, hLZ⟩, hRZ, hLoZ, hl, hrZ, rfl, rfl⟩ := hI
  have qZ : 0 ≤ ZZ 1 1 ∧ ZZ 1 1 ≤ 900 := hGZ.pr 1 1
  have hS := lw_S hRZ hLoZ
  refine lv_aload_n hx0 hb dl_739 rfl (lv_at hl 1 rfl) ?_
  refine lw_arg C0 hS hl (j := 1) (x := 1) (by omega) hL (by decide) (by decide +kernel) dl_740 dl_741 dl_742 dl_743 dl_744 ?_
  obtain ⟨zA, nA, wA, SA, ZA, hA, hcA, hxA, hGA, hqA, heA1, heA2, heA3, heA4⟩ := sf_106 (l := l) (D := D) (b0 := s.heap.size) (ad := ad) (Hb := s.heap) (tau := tau) (x0 := (xs (i + 1)).toInt) hxZ hGZ (iI_x (xs (i + 1))) (by omega)
  rw [eI (xs (i + 1))] at hcA
  obtain ⟨⟨zcA, zsA⟩, ⟨rcA, rsA⟩, hrA⟩ := lw_room hxZ hxA hGZ hrZ (by omega) hqA (mx_Ca_le hcA)
  refine W.eq (g2 := F0 m 745 la ((([.int (xs (i + 1))] : List Value).map (mx_v (tB l D s.heap.size ad s.heap tau).2.1.1)).reverse ++ .ref (mx_rho (tB l D s.heap.size ad s.heap tau).2.1.1 1) :: [])) rfl ?_
  refine mx_Wcallv (B := (tB l D s.heap.size ad s.heap tau)) (ci := 11) (r := cr_11) (n := 1) A dl_745 me_106 rfl (hxZ.obj (lt83 (GI_n hGZ) rfl) (GI_s hGZ 1 rfl)) (tw lx_4_138 rfl) (tw lx_4_139 rfl) (tw lx_4_137 rfl) hcA rfl hl.1 (by exact Nat.le_of_ble_eq_true rfl) hRZ hLoZ (by decide) (by decide) ⟨by show nZ - 1 + (hA.1 - hZ.1) ≤ 600000; rw [zcA]; exact rcA, by show _ + (hA.2.1 - hZ.2.1) ≤ 7302250; rw [zsA]; exact rsA⟩ (fun HA locsA hRA hLoA => ?_)
  refine W.cs zcA zsA ?_
  have qA : 0 ≤ ZA 1 1 ∧ ZA 1 1 ≤ 900 := hGA.pr 1 1
  have hS1 := lw_S hRA hLoA
  clear hS
  have hS := hS1
  refine W.eq (g2 := F0 m 748 la (xI zA :: [])) rfl ?_
  refine lv_pop hx0 hb dl_748 rfl ?_
  refine lv_aload_n hx0 hb dl_749 rfl (lv_at hl 2 rfl) ?_
  refine lw_arg C0 hS hl (j := 1) (x := 1) (by omega) hL (by decide) (by decide +kernel) dl_750 dl_751 dl_752 dl_753 dl_754 ?_
  obtain ⟨zB, nB, wB, SB, ZB, hB, hcB, hxB, hGB, hqB, heB1, heB2, heB3, heB4⟩ := sf_233 (l := l) (D := D) (b0 := s.heap.size) (ad := ad) (Hb := s.heap) (tau := tau) (x0 := (xs (i + 1)).toInt) hxA hGA (iI_x (xs (i + 1))) (by omega)
  rw [eI (xs (i + 1))] at hcB
  obtain ⟨⟨zcB, zsB⟩, ⟨rcB, rsB⟩, hrB⟩ := lw_room hxA hxB hGA hrA (by omega) hqB (mx_Ca_le hcB)
  refine W.eq (g2 := F0 m 755 la ((([.int (xs (i + 1))] : List Value).map (mx_v (tB l D s.heap.size ad s.heap tau).2.1.1)).reverse ++ .ref (mx_rho (tB l D s.heap.size ad s.heap tau).2.1.1 56) :: [])) rfl ?_
  refine mx_Wcallv (B := (tB l D s.heap.size ad s.heap tau)) (ci := 12) (r := cr_12) (n := 1) A dl_755 me_233 rfl (hxA.obj (lt83 (GI_n hGA) rfl) (GI_s hGA 56 rfl)) (tw lx_7_155 rfl) (tw lx_7_156 rfl) (tw lx_7_154 rfl) hcB rfl hl.1 (by exact Nat.le_of_ble_eq_true rfl) hRA hLoA (by decide) (by decide) ⟨by show nA - 1 + (hB.1 - hA.1) ≤ 600000; rw [zcB]; exact rcB, by show _ + (hB.2.1 - hA.2.1) ≤ 7302250; rw [zsB]; exact rsB⟩ (fun HB locsB hRB hLoB => ?_)
  refine W.cs zcB zsB ?_
  have hLB1 : RL1 ZB := RL1_rv heB1 (RL1_rv heA1 hLZ.1)
  have hLB2 : RL2 ZB := RL2_rv heB2 (RL2_rv heA2 hLZ.2.1)
  have hLB3 : RL3 ZB := RL3_rv heB3 (RL3_rv heA3 hLZ.2.2.1)
  have hLB4 : RL4 ZB := RL4_rv hGA heB4 (RL4_rv hGZ heA4 hLZ.2.2.2)
  have hLB : RL ZB := ⟨hLB1, hLB2, hLB3, hLB4⟩
  refine W.eq (g2 := F0 m 758 la (xI zB :: [])) rfl ?_
  refine lv_pop hx0 hb dl_758 rfl ?_
  refine lv_goto (tgt := 1513) hx0 hb dl_759 (by decide) ?_
  exact K HB locsB (nB - 1) wB ⟨nB, wB, SB, ZB, hB, hxB, ⟨hGB, hLB⟩, hRB, hLoB, hl, ⟨by have := hrB.1; omega, hrB.2⟩, rfl, rfl⟩
set_option maxHeartbeats 4000000 in
set_option maxRecDepth 100000 in
theorem lc_18 (C0 : lw_At p s m meth c b L xs) (hL : L ≤ 3072) (A : mx_Wx (tB l D s.heap.size ad s.heap tau) p s m #[Value.ref b] c code 4 R_law) {i : Nat} (hi : i + 6 ≤ L) {ph : Int} (hph : ph ≤ 10489) (hI : lw_I (tB l D s.heap.size ad s.heap tau) s b i ph H locs la cells slots) (K : ∀ (H : Heap) (locs : List Loc) (cells slots : Nat), lw_I (tB l D s.heap.size ad s.heap tau) s b i (ph + 20) H locs la cells slots → W p l e room_1 s m #[Value.ref b] below meth c H locs cells slots Q (F0 m 1513 la [])) : W p l e room_1 s m #[Value.ref b] below meth c H locs cells slots Q (F0 m 762 la []) := by
  obtain ⟨hx0, hb, hr, hml, hown, hts, hX, hbl, hlocks, hgv⟩ := id C0
  obtain ⟨nZ, wZ, SZ, ZZ, hZ, hxZ, ⟨hGZ, hLZ⟩, hRZ, hLoZ, hl, hrZ, rfl, rfl⟩ := hI
  have qZ : 0 ≤ ZZ 1 1 ∧ ZZ 1 1 ≤ 900 := hGZ.pr 1 1
  have hS := lw_S hRZ hLoZ
  refine lv_aload_n hx0 hb dl_762 rfl (lv_at hl 1 rfl) ?_
  refine lw_arg C0 hS hl (j := 1) (x := 1) (by omega) hL (by decide) (by decide +kernel) dl_763 dl_764 dl_765 dl_766 dl_767 ?_
  obtain ⟨zA, nA, wA, SA, ZA, hA, hcA, hxA, hGA, hqA, heA1, heA2, heA3, heA4⟩ := sf_107 (l := l) (D := D) (b0 := s.heap.size) (ad := ad) (Hb := s.heap) (tau := tau) (x0 := (xs (i + 1)).toInt) hxZ hGZ (iI_x (xs (i + 1))) (by omega)
  rw [eI (xs (i + 1))] at hcA
  obtain ⟨⟨zcA, zsA⟩, ⟨rcA, rsA⟩, hrA⟩ := lw_room hxZ hxA hGZ hrZ (by omega) hqA (mx_Ca_le hcA)
  refine W.eq (g2 := F0 m 768 la ((([.int (xs (i + 1))] : List Value).map (mx_v (tB l D s.heap.size ad s.heap tau).2.1.1)).reverse ++ .ref (mx_rho (tB l D s.heap.size ad s.heap tau).2.1.1 1) :: [])) rfl ?_
  refine mx_Wcallv (B := (tB l D s.heap.size ad s.heap tau)) (ci := 11) (r := cr_11) (n := 1) A dl_768 me_107 rfl (hxZ.obj (lt83 (GI_n hGZ) rfl) (GI_s hGZ 1 rfl)) (tw lx_4_158 rfl) (tw lx_4_159 rfl) (tw lx_4_157 rfl) hcA rfl hl.1 (by exact Nat.le_of_ble_eq_true rfl) hRZ hLoZ (by decide) (by decide) ⟨by show nZ - 1 + (hA.1 - hZ.1) ≤ 600000; rw [zcA]; exact rcA, by show _ + (hA.2.1 - hZ.2.1) ≤ 7302250; rw [zsA]; exact rsA⟩ (fun HA locsA hRA hLoA => ?_)
  refine W.cs zcA zsA ?_
  have qA : 0 ≤ ZA 1 1 ∧ ZA 1 1 ≤ 900 := hGA.pr 1 1
  have hS1 := lw_S hRA hLoA
  clear hS
  have hS := hS1
  refine W.eq (g2 := F0 m 771 la (xI zA :: [])) rfl ?_
  refine lv_pop hx0 hb dl_771 rfl ?_
  refine lv_aload_n hx0 hb dl_772 rfl (lv_at hl 2 rfl) ?_
  refine lw_arg C0 hS hl (j := 1) (x := 1) (by omega) hL (by decide) (by decide +kernel) dl_773 dl_774 dl_775 dl_776 dl_777 ?_
  obtain ⟨zB, nB, wB, SB, ZB, hB, hcB, hxB, hGB, hqB, heB1, heB2, heB3, heB4⟩ := sf_234 (l := l) (D := D) (b0 := s.heap.size) (ad := ad) (Hb := s.heap) (tau := tau) (x0 := (xs (i + 1)).toInt) hxA hGA (iI_x (xs (i + 1))) (by omega)
  rw [eI (xs (i + 1))] at hcB
  obtain ⟨⟨zcB, zsB⟩, ⟨rcB, rsB⟩, hrB⟩ := lw_room hxA hxB hGA hrA (by omega) hqB (mx_Ca_le hcB)
  refine W.eq (g2 := F0 m 778 la ((([.int (xs (i + 1))] : List Value).map (mx_v (tB l D s.heap.size ad s.heap tau).2.1.1)).reverse ++ .ref (mx_rho (tB l D s.heap.size ad s.heap tau).2.1.1 56) :: [])) rfl ?_
  refine mx_Wcallv (B := (tB l D s.heap.size ad s.heap tau)) (ci := 12) (r := cr_12) (n := 1) A dl_778 me_234 rfl (hxA.obj (lt83 (GI_n hGA) rfl) (GI_s hGA 56 rfl)) (tw lx_7_172 rfl) (tw lx_7_173 rfl) (tw lx_7_171 rfl) hcB rfl hl.1 (by exact Nat.le_of_ble_eq_true rfl) hRA hLoA (by decide) (by decide) ⟨by show nA - 1 + (hB.1 - hA.1) ≤ 600000; rw [zcB]; exact rcB, by show _ + (hB.2.1 - hA.2.1) ≤ 7302250; rw [zsB]; exact rsB⟩ (fun HB locsB hRB hLoB => ?_)
  refine W.cs zcB zsB ?_
  have hLB1 : RL1 ZB := RL1_rv heB1 (RL1_rv heA1 hLZ.1)
  have hLB2 : RL2 ZB := RL2_rv heB2 (RL2_rv heA2 hLZ.2.1)
  have hLB3 : RL3 ZB := RL3_rv heB3 (RL3_rv heA3 hLZ.2.2.1)
  have hLB4 : RL4 ZB := RL4_rv hGA heB4 (RL4_rv hGZ heA4 hLZ.2.2.2)
  have hLB : RL ZB := ⟨hLB1, hLB2, hLB3, hLB4⟩
  refine W.eq (g2 := F0 m 781 la (xI zB :: [])) rfl ?_
  refine lv_pop hx0 hb dl_781 rfl ?_
  refine lv_goto (tgt := 1513) hx0 hb dl_782 (by decide) ?_
  exact K HB locsB (nB - 1) wB ⟨nB, wB, SB, ZB, hB, hxB, ⟨hGB, hLB⟩, hRB, hLoB, hl, ⟨by have := hrB.1; omega, hrB.2⟩, rfl, rfl⟩
set_option maxHeartbeats 4000000 in
set_option maxRecDepth 100000 in
theorem lc_19 (C0 : lw_At p s m meth c b L xs) (hL : L ≤ 3072) (A : mx_Wx (tB l D s.heap.size ad s.heap tau) p s m #[Value.ref b] c code 4 R_law) {i : Nat} (hi : i + 6 ≤ L) {ph : Int} (hph : ph ≤ 10489) (hI : lw_I (tB l D s.heap.size ad s.heap tau) s b i ph H locs la cells slots) (K : ∀ (H : Heap) (locs : List Loc) (cells slots : Nat), lw_I (tB l D s.heap.size ad s.heap tau) s b i (ph + 20) H locs la cells slots → W p l e room_1 s m #[Value.ref b] below meth c H locs cells slots Q (F0 m 1513 la [])) : W p l e room_1 s m #[Value.ref b] below meth c H locs cells slots Q (F0 m 785 la []) := by
  obtain ⟨hx0, hb, hr, hml, hown, hts, hX, hbl, hlocks, hgv⟩ := id C0
  obtain ⟨nZ, wZ, SZ, ZZ, hZ, hxZ, ⟨hGZ, hLZ⟩, hRZ, hLoZ, hl, hrZ, rfl, rfl⟩ := hI
  have qZ : 0 ≤ ZZ 1 1 ∧ ZZ 1 1 ≤ 900 := hGZ.pr 1 1
  have hS := lw_S hRZ hLoZ
  refine lv_aload_n hx0 hb dl_785 rfl (lv_at hl 1 rfl) ?_
  refine lw_arg C0 hS hl (j := 1) (x := 1) (by omega) hL (by decide) (by decide +kernel) dl_786 dl_787 dl_788 dl_789 dl_790 ?_
  obtain ⟨zA, nA, wA, SA, ZA, hA, hcA, hxA, hGA, hqA, heA1, heA2, heA3, heA4⟩ := sf_108 (l := l) (D := D) (b0 := s.heap.size) (ad := ad) (Hb := s.heap) (tau := tau) (x0 := (xs (i + 1)).toInt) hxZ hGZ (iI_x (xs (i + 1))) (by omega)
  rw [eI (xs (i + 1))] at hcA
  obtain ⟨⟨zcA, zsA⟩, ⟨rcA, rsA⟩, hrA⟩ := lw_room hxZ hxA hGZ hrZ (by omega) hqA (mx_Ca_le hcA)
  refine W.eq (g2 := F0 m 791 la ((([.int (xs (i + 1))] : List Value).map (mx_v (tB l D s.heap.size ad s.heap tau).2.1.1)).reverse ++ .ref (mx_rho (tB l D s.heap.size ad s.heap tau).2.1.1 1) :: [])) rfl ?_
  refine mx_Wcallv (B := (tB l D s.heap.size ad s.heap tau)) (ci := 11) (r := cr_11) (n := 1) A dl_791 me_108 rfl (hxZ.obj (lt83 (GI_n hGZ) rfl) (GI_s hGZ 1 rfl)) (tw lx_4_166 rfl) (tw lx_4_167 rfl) (tw lx_4_165 rfl) hcA rfl hl.1 (by exact Nat.le_of_ble_eq_true rfl) hRZ hLoZ (by decide) (by decide) ⟨by show nZ - 1 + (hA.1 - hZ.1) ≤ 600000; rw [zcA]; exact rcA, by show _ + (hA.2.1 - hZ.2.1) ≤ 7302250; rw [zsA]; exact rsA⟩ (fun HA locsA hRA hLoA => ?_)
  refine W.cs zcA zsA ?_
  have qA : 0 ≤ ZA 1 1 ∧ ZA 1 1 ≤ 900 := hGA.pr 1 1
  have hS1 := lw_S hRA hLoA
  clear hS
  have hS := hS1
  refine W.eq (g2 := F0 m 794 la (xI zA :: [])) rfl ?_
  refine lv_pop hx0 hb dl_794 rfl ?_
  refine lv_aload_n hx0 hb dl_795 rfl (lv_at hl 2 rfl) ?_
  refine lw_arg C0 hS hl (j := 1) (x := 1) (by omega) hL (by decide) (by decide +kernel) dl_796 dl_797 dl_798 dl_799 dl_800 ?_
  obtain ⟨zB, nB, wB, SB, ZB, hB, hcB, hxB, hGB, hqB, heB1, heB2, heB3, heB4⟩ := sf_241 (l := l) (D := D) (b0 := s.heap.size) (ad := ad) (Hb := s.heap) (tau := tau) (x0 := (xs (i + 1)).toInt) hxA hGA (iI_x (xs (i + 1))) (by omega)
  rw [eI (xs (i + 1))] at hcB
  obtain ⟨⟨zcB, zsB⟩, ⟨rcB, rsB⟩, hrB⟩ := lw_room hxA hxB hGA hrA (by omega) hqB (mx_Ca_le hcB)
  refine W.eq (g2 := F0 m 801 la ((([.int (xs (i + 1))] : List Value).map (mx_v (tB l D s.heap.size ad s.heap tau).2.1.1)).reverse ++ .ref (mx_rho (tB l D s.heap.size ad s.heap tau).2.1.1 56) :: [])) rfl ?_
  refine mx_Wcallv (B := (tB l D s.heap.size ad s.heap tau)) (ci := 12) (r := cr_12) (n := 1) A dl_801 me_241 rfl (hxA.obj (lt83 (GI_n hGA) rfl) (GI_s hGA 56 rfl)) (tw lx_7_176 rfl) (tw lx_7_177 rfl) (tw lx_7_175 rfl) hcB rfl hl.1 (by exact Nat.le_of_ble_eq_true rfl) hRA hLoA (by decide) (by decide) ⟨by show nA - 1 + (hB.1 - hA.1) ≤ 600000; rw [zcB]; exact rcB, by show _ + (hB.2.1 - hA.2.1) ≤ 7302250; rw [zsB]; exact rsB⟩ (fun HB locsB hRB hLoB => ?_)
  refine W.cs zcB zsB ?_
  have hLB1 : RL1 ZB := RL1_rv heB1 (RL1_rv heA1 hLZ.1)
  have hLB2 : RL2 ZB := RL2_rv heB2 (RL2_rv heA2 hLZ.2.1)
  have hLB3 : RL3 ZB := RL3_rv heB3 (RL3_rv heA3 hLZ.2.2.1)
  have hLB4 : RL4 ZB := RL4_rv hGA heB4 (RL4_rv hGZ heA4 hLZ.2.2.2)
  have hLB : RL ZB := ⟨hLB1, hLB2, hLB3, hLB4⟩
  refine W.eq (g2 := F0 m 804 la (xI zB :: [])) rfl ?_
  refine lv_pop hx0 hb dl_804 rfl ?_
  refine lv_goto (tgt := 1513) hx0 hb dl_805 (by decide) ?_
  exact K HB locsB (nB - 1) wB ⟨nB, wB, SB, ZB, hB, hxB, ⟨hGB, hLB⟩, hRB, hLoB, hl, ⟨by have := hrB.1; omega, hrB.2⟩, rfl, rfl⟩
set_option maxHeartbeats 4000000 in
set_option maxRecDepth 100000 in
theorem lc_20 (C0 : lw_At p s m meth c b L xs) (hL : L ≤ 3072) (A : mx_Wx (tB l D s.heap.size ad s.heap tau) p s m #[Value.ref b] c code 4 R_law) {i : Nat} (hi : i + 6 ≤ L) {ph : Int} (hph : ph ≤ 10489) (hI : lw_I (tB l D s.heap.size ad s.heap tau) s b i ph H locs la cells slots) (K : ∀ (H : Heap) (locs : List Loc) (cells slots : Nat), lw_I (tB l D s.heap.size ad s.heap tau) s b i (ph + 20) H locs la cells slots → W p l e room_1 s m #[Value.ref b] below meth c H locs cells slots Q (F0 m 1513 la [])) : W p l e room_1 s m #[Value.ref b] below meth c H locs cells slots Q (F0 m 808 la []) := by
  obtain ⟨hx0, hb, hr, hml, hown, hts, hX, hbl, hlocks, hgv⟩ := id C0
  obtain ⟨nZ, wZ, SZ, ZZ, hZ, hxZ, ⟨hGZ, hLZ⟩, hRZ, hLoZ, hl, hrZ, rfl, rfl⟩ := hI
  have qZ : 0 ≤ ZZ 1 1 ∧ ZZ 1 1 ≤ 900 := hGZ.pr 1 1
  have hS := lw_S hRZ hLoZ
  refine lv_aload_n hx0 hb dl_808 rfl (lv_at hl 1 rfl) ?_
  refine lw_arg C0 hS hl (j := 1) (x := 1) (by omega) hL (by decide) (by decide +kernel) dl_809 dl_810 dl_811 dl_812 dl_813 ?_
  refine lw_arg C0 hS hl (j := 2) (x := 2) (by omega) hL (by decide) (by decide +kernel) dl_814 dl_815 dl_816 dl_817 dl_818 ?_
  obtain ⟨zA, nA, wA, SA, ZA, hA, hcA, hxA, hGA, hqA, heA1, heA2, heA3, heA4⟩ := sf_109 (l := l) (D := D) (b0 := s.heap.size) (ad := ad) (Hb := s.heap) (tau := tau) (x0 := (xs (i + 1)).toInt) (x1 := (xs (i + 2)).toInt) hxZ hGZ (iI_x (xs (i + 1))) (iI_x (xs (i + 2))) (by omega)
  rw [eI (xs (i + 1)), eI (xs (i + 2))] at hcA
  obtain ⟨⟨zcA, zsA⟩, ⟨rcA, rsA⟩, hrA⟩ := lw_room hxZ hxA hGZ hrZ (by omega) hqA (mx_Ca_le hcA)
  refine W.eq (g2 := F0 m 819 la ((([.int (xs (i + 1)), .int (xs (i + 2))] : List Value).map (mx_v (tB l D s.heap.size ad s.heap tau).2.1.1)).reverse ++ .ref (mx_rho (tB l D s.heap.size ad s.heap tau).2.1.1 1) :: [])) rfl ?_
  refine mx_Wcallv (B := (tB l D s.heap.size ad s.heap tau)) (ci := 11) (r := cr_11) (n := 2) A dl_819 me_109 rfl (hxZ.obj (lt83 (GI_n hGZ) rfl) (GI_s hGZ 1 rfl)) (tw lx_4_191 rfl) (tw lx_4_192 rfl) (tw lx_4_190 rfl) hcA rfl hl.1 (by exact Nat.le_of_ble_eq_true rfl) hRZ hLoZ (by decide) (by decide) ⟨by show nZ - 1 + (hA.1 - hZ.1) ≤ 600000; rw [zcA]; exact rcA, by show _ + (hA.2.1 - hZ.2.1) ≤ 7302250; rw [zsA]; exact rsA⟩ (fun HA locsA hRA hLoA => ?_)
  refine W.cs zcA zsA ?_
  have qA : 0 ≤ ZA 1 1 ∧ ZA 1 1 ≤ 900 := hGA.pr 1 1
  have hS1 := lw_S hRA hLoA
  clear hS
  have hS := hS1
  refine W.eq (g2 := F0 m 822 la (xI zA :: [])) rfl ?_
  refine lv_pop hx0 hb dl_822 rfl ?_
  refine lv_aload_n hx0 hb dl_823 rfl (lv_at hl 2 rfl) ?_
  refine lw_arg C0 hS hl (j := 1) (x := 1) (by omega) hL (by decide) (by decide +kernel) dl_824 dl_825 dl_826 dl_827 dl_828 ?_
  refine lw_arg C0 hS hl (j := 2) (x := 2) (by omega) hL (by decide) (by decide +kernel) dl_829 dl_830 dl_831 dl_832 dl_833 ?_
  obtain ⟨zB, nB, wB, SB, ZB, hB, hcB, hxB, hGB, hqB, heB1, heB2, heB3, heB4⟩ := sf_242 (l := l) (D := D) (b0 := s.heap.size) (ad := ad) (Hb := s.heap) (tau := tau) (x0 := (xs (i + 1)).toInt) (x1 := (xs (i + 2)).toInt) hxA hGA (iI_x (xs (i + 1))) (iI_x (xs (i + 2))) (by omega)
  rw [eI (xs (i + 1)), eI (xs (i + 2))] at hcB
  obtain ⟨⟨zcB, zsB⟩, ⟨rcB, rsB⟩, hrB⟩ := lw_room hxA hxB hGA hrA (by omega) hqB (mx_Ca_le hcB)
  refine W.eq (g2 := F0 m 834 la ((([.int (xs (i + 1)), .int (xs (i + 2))] : List Value).map (mx_v (tB l D s.heap.size ad s.heap tau).2.1.1)).reverse ++ .ref (mx_rho (tB l D s.heap.size ad s.heap tau).2.1.1 56) :: [])) rfl ?_
  refine mx_Wcallv (B := (tB l D s.heap.size ad s.heap tau)) (ci := 12) (r := cr_12) (n := 2) A dl_834 me_242 rfl (hxA.obj (lt83 (GI_n hGA) rfl) (GI_s hGA 56 rfl)) (tw lx_7_204 rfl) (tw lx_7_205 rfl) (tw lx_7_203 rfl) hcB rfl hl.1 (by exact Nat.le_of_ble_eq_true rfl) hRA hLoA (by decide) (by decide) ⟨by show nA - 1 + (hB.1 - hA.1) ≤ 600000; rw [zcB]; exact rcB, by show _ + (hB.2.1 - hA.2.1) ≤ 7302250; rw [zsB]; exact rsB⟩ (fun HB locsB hRB hLoB => ?_)
  refine W.cs zcB zsB ?_
  have hLB1 : RL1 ZB := RL1_rv heB1 (RL1_rv heA1 hLZ.1)
  have hLB2 : RL2 ZB := RL2_rv heB2 (RL2_rv heA2 hLZ.2.1)
  have hLB3 : RL3 ZB := RL3_rv heB3 (RL3_rv heA3 hLZ.2.2.1)
  have hLB4 : RL4 ZB := RL4_rv hGA heB4 (RL4_rv hGZ heA4 hLZ.2.2.2)
  have hLB : RL ZB := ⟨hLB1, hLB2, hLB3, hLB4⟩
  refine W.eq (g2 := F0 m 837 la (xI zB :: [])) rfl ?_
  refine lv_pop hx0 hb dl_837 rfl ?_
  refine lv_goto (tgt := 1513) hx0 hb dl_838 (by decide) ?_
  exact K HB locsB (nB - 1) wB ⟨nB, wB, SB, ZB, hB, hxB, ⟨hGB, hLB⟩, hRB, hLoB, hl, ⟨by have := hrB.1; omega, hrB.2⟩, rfl, rfl⟩
set_option maxHeartbeats 4000000 in
set_option maxRecDepth 100000 in
theorem lc_21 (C0 : lw_At p s m meth c b L xs) (hL : L ≤ 3072) (A : mx_Wx (tB l D s.heap.size ad s.heap tau) p s m #[Value.ref b] c code 4 R_law) {i : Nat} (hi : i + 6 ≤ L) {ph : Int} (hph : ph ≤ 10489) (hI : lw_I (tB l D s.heap.size ad s.heap tau) s b i ph H locs la cells slots) (K : ∀ (H : Heap) (locs : List Loc) (cells slots : Nat), lw_I (tB l D s.heap.size ad s.heap tau) s b i (ph + 20) H locs la cells slots → W p l e room_1 s m #[Value.ref b] below meth c H locs cells slots Q (F0 m 1513 la [])) : W p l e room_1 s m #[Value.ref b] below meth c H locs cells slots Q (F0 m 841 la []) := by
  obtain ⟨hx0, hb, hr, hml, hown, hts, hX, hbl, hlocks, hgv⟩ := id C0
  obtain ⟨nZ, wZ, SZ, ZZ, hZ, hxZ, ⟨hGZ, hLZ⟩, hRZ, hLoZ, hl, hrZ, rfl, rfl⟩ := hI
  have qZ : 0 ≤ ZZ 1 1 ∧ ZZ 1 1 ≤ 900 := hGZ.pr 1 1
  have hS := lw_S hRZ hLoZ
  refine lv_aload_n hx0 hb dl_841 rfl (lv_at hl 1 rfl) ?_
  refine lw_arg C0 hS hl (j := 1) (x := 1) (by omega) hL (by decide) (by decide +kernel) dl_842 dl_843 dl_844 dl_845 dl_846 ?_
  refine lw_arg C0 hS hl (j := 2) (x := 2) (by omega) hL (by decide) (by decide +kernel) dl_847 dl_848 dl_849 dl_850 dl_851 ?_
  obtain ⟨zA, nA, wA, SA, ZA, hA, hcA, hxA, hGA, hqA, heA1, heA2, heA3, heA4⟩ := sf_110 (l := l) (D := D) (b0 := s.heap.size) (ad := ad) (Hb := s.heap) (tau := tau) (x0 := (xs (i + 1)).toInt) (x1 := (xs (i + 2)).toInt) hxZ hGZ (iI_x (xs (i + 1))) (iI_x (xs (i + 2))) (by omega)
  rw [eI (xs (i + 1)), eI (xs (i + 2))] at hcA
  obtain ⟨⟨zcA, zsA⟩, ⟨rcA, rsA⟩, hrA⟩ := lw_room hxZ hxA hGZ hrZ (by omega) hqA (mx_Ca_le hcA)
  refine W.eq (g2 := F0 m 852 la ((([.int (xs (i + 1)), .int (xs (i + 2))] : List Value).map (mx_v (tB l D s.heap.size ad s.heap tau).2.1.1)).reverse ++ .ref (mx_rho (tB l D s.heap.size ad s.heap tau).2.1.1 1) :: [])) rfl ?_
  refine mx_Wcallv (B := (tB l D s.heap.size ad s.heap tau)) (ci := 11) (r := cr_11) (n := 2) A dl_852 me_110 rfl (hxZ.obj (lt83 (GI_n hGZ) rfl) (GI_s hGZ 1 rfl)) (tw lx_4_199 rfl) (tw lx_4_200 rfl) (tw lx_4_198 rfl) hcA rfl hl.1 (by exact Nat.le_of_ble_eq_true rfl) hRZ hLoZ (by decide) (by decide) ⟨by show nZ - 1 + (hA.1 - hZ.1) ≤ 600000; rw [zcA]; exact rcA, by show _ + (hA.2.1 - hZ.2.1) ≤ 7302250; rw [zsA]; exact rsA⟩ (fun HA locsA hRA hLoA => ?_)
  refine W.cs zcA zsA ?_
  have qA : 0 ≤ ZA 1 1 ∧ ZA 1 1 ≤ 900 := hGA.pr 1 1
  have hS1 := lw_S hRA hLoA
  clear hS
  have hS := hS1
  refine W.eq (g2 := F0 m 855 la (xL zA :: [])) rfl ?_
  refine lv_pop2_2 hx0 hb dl_855 rfl ?_
  refine lv_aload_n hx0 hb dl_856 rfl (lv_at hl 2 rfl) ?_
  refine lw_arg C0 hS hl (j := 1) (x := 1) (by omega) hL (by decide) (by decide +kernel) dl_857 dl_858 dl_859 dl_860 dl_861 ?_
  refine lw_arg C0 hS hl (j := 2) (x := 2) (by omega) hL (by decide) (by decide +kernel) dl_862 dl_863 dl_864 dl_865 dl_866 ?_
  obtain ⟨zB, nB, wB, SB, ZB, hB, hcB, hxB, hGB, hqB, heB1, heB2, heB3, heB4⟩ := sf_245 (l := l) (D := D) (b0 := s.heap.size) (ad := ad) (Hb := s.heap) (tau := tau) (x0 := (xs (i + 1)).toInt) (x1 := (xs (i + 2)).toInt) hxA hGA (iI_x (xs (i + 1))) (iI_x (xs (i + 2))) (by omega)
  rw [eI (xs (i + 1)), eI (xs (i + 2))] at hcB
  obtain ⟨⟨zcB, zsB⟩, ⟨rcB, rsB⟩, hrB⟩ := lw_room hxA hxB hGA hrA (by omega) hqB (mx_Ca_le hcB)
  refine W.eq (g2 := F0 m 867 la ((([.int (xs (i + 1)), .int (xs (i + 2))] : List Value).map (mx_v (tB l D s.heap.size ad s.heap tau).2.1.1)).reverse ++ .ref (mx_rho (tB l D s.heap.size ad s.heap tau).2.1.1 56) :: [])) rfl ?_
  refine mx_Wcallv (B := (tB l D s.heap.size ad s.heap tau)) (ci := 12) (r := cr_12) (n := 2) A dl_867 me_245 rfl (hxA.obj (lt83 (GI_n hGA) rfl) (GI_s hGA 56 rfl)) (tw lx_7_208 rfl) (tw lx_7_209 rfl) (tw lx_7_207 rfl) hcB rfl hl.1 (by exact Nat.le_of_ble_eq_true rfl) hRA hLoA (by decide) (by decide) ⟨by show nA - 1 + (hB.1 - hA.1) ≤ 600000; rw [zcB]; exact rcB, by show _ + (hB.2.1 - hA.2.1) ≤ 7302250; rw [zsB]; exact rsB⟩ (fun HB locsB hRB hLoB => ?_)
  refine W.cs zcB zsB ?_
  have hLB1 : RL1 ZB := RL1_rv heB1 (RL1_rv heA1 hLZ.1)
  have hLB2 : RL2 ZB := RL2_rv heB2 (RL2_rv heA2 hLZ.2.1)
  have hLB3 : RL3 ZB := RL3_rv heB3 (RL3_rv heA3 hLZ.2.2.1)
  have hLB4 : RL4 ZB := RL4_rv hGA heB4 (RL4_rv hGZ heA4 hLZ.2.2.2)
  have hLB : RL ZB := ⟨hLB1, hLB2, hLB3, hLB4⟩
  refine W.eq (g2 := F0 m 870 la (xL zB :: [])) rfl ?_
  refine lv_pop2_2 hx0 hb dl_870 rfl ?_
  refine lv_goto (tgt := 1513) hx0 hb dl_871 (by decide) ?_
  exact K HB locsB (nB - 1) wB ⟨nB, wB, SB, ZB, hB, hxB, ⟨hGB, hLB⟩, hRB, hLoB, hl, ⟨by have := hrB.1; omega, hrB.2⟩, rfl, rfl⟩
set_option maxHeartbeats 4000000 in
set_option maxRecDepth 100000 in
theorem lc_22 (C0 : lw_At p s m meth c b L xs) (hL : L ≤ 3072) (A : mx_Wx (tB l D s.heap.size ad s.heap tau) p s m #[Value.ref b] c code 4 R_law) {i : Nat} (hi : i + 6 ≤ L) {ph : Int} (hph : ph ≤ 10489) (hI : lw_I (tB l D s.heap.size ad s.heap tau) s b i ph H locs la cells slots) (K : ∀ (H : Heap) (locs : List Loc) (cells slots : Nat), lw_I (tB l D s.heap.size ad s.heap tau) s b i (ph + 20) H locs la cells slots → W p l e room_1 s m #[Value.ref b] below meth c H locs cells slots Q (F0 m 1513 la [])) : W p l e room_1 s m #[Value.ref b] below meth c H locs cells slots Q (F0 m 874 la []) := by
  obtain ⟨hx0, hb, hr, hml, hown, hts, hX, hbl, hlocks, hgv⟩ := id C0
  obtain ⟨nZ, wZ, SZ, ZZ, hZ, hxZ, ⟨hGZ, hLZ⟩, hRZ, hLoZ, hl, hrZ, rfl, rfl⟩ := hI
  have qZ : 0 ≤ ZZ 1 1 ∧ ZZ 1 1 ≤ 900 := hGZ.pr 1 1
  have hS := lw_S hRZ hLoZ
  refine lv_aload_n hx0 hb dl_874 rfl (lv_at hl 1 rfl) ?_
  refine lw_arg C0 hS hl (j := 1) (x := 1) (by omega) hL (by decide) (by decide +kernel) dl_875 dl_876 dl_877 dl_878 dl_879 ?_
  obtain ⟨zA, nA, wA, SA, ZA, hA, hcA, hxA, hGA, hqA, heA1, heA2, heA3, heA4⟩ := sf_111 (l := l) (D := D) (b0 := s.heap.size) (ad := ad) (Hb := s.heap) (tau := tau) (x0 := (xs (i + 1)).toInt) hxZ hGZ (iI_x (xs (i + 1))) (by omega)
  rw [eI (xs (i + 1))] at hcA
  obtain ⟨⟨zcA, zsA⟩, ⟨rcA, rsA⟩, hrA⟩ := lw_room hxZ hxA hGZ hrZ (by omega) hqA (mx_Ca_le hcA)
  refine W.eq (g2 := F0 m 880 la ((([.int (xs (i + 1))] : List Value).map (mx_v (tB l D s.heap.size ad s.heap tau).2.1.1)).reverse ++ .ref (mx_rho (tB l D s.heap.size ad s.heap tau).2.1.1 1) :: [])) rfl ?_
  refine mx_Wcallv (B := (tB l D s.heap.size ad s.heap tau)) (ci := 11) (r := cr_11) (n := 1) A dl_880 me_111 rfl (hxZ.obj (lt83 (GI_n hGZ) rfl) (GI_s hGZ 1 rfl)) (tw lx_4_223 rfl) (tw lx_4_224 rfl) (tw lx_4_222 rfl) hcA rfl hl.1 (by exact Nat.le_of_ble_eq_true rfl) hRZ hLoZ (by decide) (by decide) ⟨by show nZ - 1 + (hA.1 - hZ.1) ≤ 600000; rw [zcA]; exact rcA, by show _ + (hA.2.1 - hZ.2.1) ≤ 7302250; rw [zsA]; exact rsA⟩ (fun HA locsA hRA hLoA => ?_)
  refine W.cs zcA zsA ?_
  have qA : 0 ≤ ZA 1 1 ∧ ZA 1 1 ≤ 900 := hGA.pr 1 1
  have hS1 := lw_S hRA hLoA
  clear hS
  have hS := hS1
  refine W.eq (g2 := F0 m 883 la (xI zA :: [])) rfl ?_
  refine lv_pop hx0 hb dl_883 rfl ?_
  refine lv_aload_n hx0 hb dl_884 rfl (lv_at hl 2 rfl) ?_
  refine lw_arg C0 hS hl (j := 1) (x := 1) (by omega) hL (by decide) (by decide +kernel) dl_885 dl_886 dl_887 dl_888 dl_889 ?_
  obtain ⟨zB, nB, wB, SB, ZB, hB, hcB, hxB, hGB, hqB, heB1, heB2, heB3, heB4⟩ := sf_247 (l := l) (D := D) (b0 := s.heap.size) (ad := ad) (Hb := s.heap) (tau := tau) (x0 := (xs (i + 1)).toInt) hxA hGA (iI_x (xs (i + 1))) (by omega)
  rw [eI (xs (i + 1))] at hcB
  obtain ⟨⟨zcB, zsB⟩, ⟨rcB, rsB⟩, hrB⟩ := lw_room hxA hxB hGA hrA (by omega) hqB (mx_Ca_le hcB)
  refine W.eq (g2 := F0 m 890 la ((([.int (xs (i + 1))] : List Value).map (mx_v (tB l D s.heap.size ad s.heap tau).2.1.1)).reverse ++ .ref (mx_rho (tB l D s.heap.size ad s.heap tau).2.1.1 56) :: [])) rfl ?_
  refine mx_Wcallv (B := (tB l D s.heap.size ad s.heap tau)) (ci := 12) (r := cr_12) (n := 1) A dl_890 me_247 rfl (hxA.obj (lt83 (GI_n hGA) rfl) (GI_s hGA 56 rfl)) (tw lx_7_221 rfl) (tw lx_7_222 rfl) (tw lx_7_220 rfl) hcB rfl hl.1 (by exact Nat.le_of_ble_eq_true rfl) hRA hLoA (by decide) (by decide) ⟨by show nA - 1 + (hB.1 - hA.1) ≤ 600000; rw [zcB]; exact rcB, by show _ + (hB.2.1 - hA.2.1) ≤ 7302250; rw [zsB]; exact rsB⟩ (fun HB locsB hRB hLoB => ?_)
  refine W.cs zcB zsB ?_
  have hLB1 : RL1 ZB := RL1_rv heB1 (RL1_rv heA1 hLZ.1)
  have hLB2 : RL2 ZB := RL2_rv heB2 (RL2_rv heA2 hLZ.2.1)
  have hLB3 : RL3 ZB := RL3_rv heB3 (RL3_rv heA3 hLZ.2.2.1)
  have hLB4 : RL4 ZB := RL4_rv hGA heB4 (RL4_rv hGZ heA4 hLZ.2.2.2)
  have hLB : RL ZB := ⟨hLB1, hLB2, hLB3, hLB4⟩
  refine W.eq (g2 := F0 m 893 la (xI zB :: [])) rfl ?_
  refine lv_pop hx0 hb dl_893 rfl ?_
  refine lv_goto (tgt := 1513) hx0 hb dl_894 (by decide) ?_
  exact K HB locsB (nB - 1) wB ⟨nB, wB, SB, ZB, hB, hxB, ⟨hGB, hLB⟩, hRB, hLoB, hl, ⟨by have := hrB.1; omega, hrB.2⟩, rfl, rfl⟩
end LAW
