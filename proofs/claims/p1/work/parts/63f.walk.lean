section WK2
variable {l : Launch} {D : va_G} {b0 : Nat} {ad : Nat → Nat} {Hb : Heap} {tau : Nat → Int64} {h : mx_H} {V : Nat → mx_C}
theorem hTB2 {TB : mx_A} {ne i j : Nat} {x : Int32} (hTB : ∀ i, i < 8 → ∃ b, mx_get 13 TB i = .int b ∧ qb ne (cw i) b) (hi : i < 8) (hj : j < 8) (hx : qb ne (cw j) x) : ∃ b, mx_get 13 (mx_set 13 TB j (.int x)) i = .int b ∧ qb ne (cw i) b := by
  rw [mx_get_set _ 13 TB j i (by show j < 8192; omega) (by show i < 8192; omega)]
  by_cases hij : i = j
  · rw [if_pos hij, hij]; exact ⟨x, rfl, hx⟩
  · rw [if_neg hij]; exact hTB i hi
set_option maxHeartbeats 300000 in
set_option maxRecDepth 100000 in
theorem jt_26_0 {ne : Nat} (hY : YH 84 62986 V h) (hP : PC V ne) (n1 : 1 ≤ ne) (n2 : ne < 64) : ∃ h2, mx_Ca (tB l D b0 ad Hb tau) 27 26 [.ref 12, .int 0, .int 0] h (some (.int 0), h2) ∧ ∃ V2, YH 84 62986 V2 h2 ∧ fr [14, 16, 17, 19] V V2 ∧ PC V2 ne := by
  obtain ⟨hB, h12, ⟨TB, h14, hTB⟩, ⟨TG, g, h16, hg, hq⟩, ⟨TK, k, h17, hk⟩, TT, h19, hT⟩ := hP
  obtain ⟨b, hb, hqb⟩ := hTB 0 (by decide)
  have hqb : qb ne 1 b := hqb
  refine Jm (M := (prog_6_method_4_code, 6, "TitheHeap$Mill", "behind", (Option.some Jvm.ClassFile.FieldType.int))) rfl rfl rfl rfl rfl ?_
  show mx_J _ _ _ 0 [some (.ref 12), some (.int 0), some (.int 0), none, none, none] [] h _
  refine mx_J.step (sn_26 0) (fun _ _ => rfl) ?_
  refine Jif_lt_f (show mx_Sn _ _ 1 (mx_if_lt 25 4) from sn_26 1) (by decide +kernel) ?_
  refine mx_J.step (sn_26 4) (fun _ _ => rfl) ?_
  refine mx_J.step (sn_26 5) (fun _ _ => rfl) ?_
  refine Jgetf hY (show mx_Sn _ _ 6 (mx_getf 4 0 9) from sn_26 6) rfl h12 rfl ?_
  refine Jgetf hY (show mx_Sn _ _ 9 (mx_getf 0 5 12) from sn_26 9) rfl (kb_7 hB) rfl ?_
  refine Jicmp_ge_f (show mx_Sn _ _ 12 (mx_icmp_ge 25 15) from sn_26 12) (by decide +kernel) ?_
  refine mx_J.step (sn_26 15) (fun _ _ => rfl) ?_
  refine Jif_lt_f (show mx_Sn _ _ 16 (mx_if_lt 25 19) from sn_26 16) (by decide +kernel) ?_
  refine mx_J.step (sn_26 19) (fun _ _ => rfl) ?_
  refine mx_J.step (sn_26 20) (fun _ _ => rfl) ?_
  refine Jicmp_le_t (show mx_Sn _ _ 22 (mx_icmp_le 27 25) from sn_26 22) (by decide +kernel) ?_
  refine mx_J.step (sn_26 27) (fun _ _ => rfl) ?_
  refine mx_J.step (sn_26 28) (fun _ _ => rfl) ?_
  refine mx_J.step (sn_26 30) (fun _ _ => rfl) ?_
  refine mx_J.step (sn_26 31) (fun _ _ => rfl) ?_
  refine mx_J.step (sn_26 32) (fun _ _ => rfl) ?_
  refine mx_J.step (sn_26 33) (fun _ _ => rfl) ?_
  refine mx_J.step (sn_26 34) (fun _ _ => rfl) ?_
  refine Jgetf hY (show mx_Sn _ _ 35 (mx_getf 4 3 38) from sn_26 35) rfl h12 rfl ?_
  refine mx_J.step (sn_26 38) (fun _ _ => rfl) ?_
  refine Jiald (i := 0) hY (show mx_Sn _ _ 39 (mx_iald 40) from sn_26 39) rfl h14 (by decide +kernel) (hb) ?_
  refine mx_J.step (sn_26 40) (fun _ _ => rfl) ?_
  refine mx_J.step (sn_26 42) (fun _ _ => rfl) ?_
  refine mx_J.step (sn_26 43) (fun _ _ => rfl) ?_
  refine Jgetf hY (show mx_Sn _ _ 44 (mx_getf 4 2 47) from sn_26 44) rfl h12 rfl ?_
  by_cases hkt : b >>> (10 &&& 31) = nI ne
  · refine Jicmp_eq_t (show mx_Sn _ _ 47 (mx_icmp_eq 101 50) from sn_26 47) hkt ?_
    refine mx_J.step (sn_26 101) (fun _ _ => rfl) ?_
    refine Jgetf hY (show mx_Sn _ _ 102 (mx_getf 4 3 105) from sn_26 102) rfl h12 rfl ?_
    refine mx_J.step (sn_26 105) (fun _ _ => rfl) ?_
    refine Jiald (i := 0) hY (show mx_Sn _ _ 106 (mx_iald 107) from sn_26 106) rfl h14 (by decide +kernel) (hb) ?_
    refine mx_J.step (sn_26 107) (fun _ _ => rfl) ?_
    refine mx_J.step (sn_26 110) (fun _ _ => rfl) ?_
    refine mx_J.step (sn_26 111) (fun _ _ => rfl) ?_
    refine mx_J.step (sn_26 112) (fun _ _ => rfl) ?_
    exact mx_J.ret (sn_26 113) (fun _ _ => rfl) ⟨by show some (Value.int ((b &&& 1023) - 1)) = _; rw [qb_hit1 hqb n1 n2 hkt], V, hY, fr.rfl', ⟨hB, h12, ⟨TB, h14, hTB⟩, ⟨TG, g, h16, hg, hq⟩, ⟨TK, k, h17, hk⟩, TT, h19, hT⟩⟩
  · refine Jicmp_eq_f (show mx_Sn _ _ 47 (mx_icmp_eq 101 50) from sn_26 47) hkt ?_
    refine mx_J.step (sn_26 50) (fun _ _ => rfl) ?_
    refine Jgetf hY (show mx_Sn _ _ 51 (mx_getf 4 0 54) from sn_26 51) rfl h12 rfl ?_
    refine mx_J.step (sn_26 54) (fun _ _ => rfl) ?_
    refine mx_J.step (sn_26 55) (fun _ _ => rfl) ?_
    obtain ⟨h1, hca, hY1⟩ := cl_7_0 hY hB
    refine Jcallv (b := 7) hY (show mx_Sn _ _ 56 (mx_callv 7 3 0 59) from sn_26 56) rfl (kb_7 hB) hca rfl rfl ?_
    have hY := hY1
    refine mx_J.step (sn_26 59) (fun _ _ => rfl) ?_
    refine mx_J.step (sn_26 61) (fun _ _ => rfl) ?_
    refine Jif_le_t (show mx_Sn _ _ 62 (mx_if_le 74 65) from sn_26 62) (by decide +kernel) ?_
    refine mx_J.step (sn_26 74) (fun _ _ => rfl) ?_
    refine mx_J.step (sn_26 75) (fun _ _ => rfl) ?_
    refine mx_J.step (sn_26 76) (fun _ _ => rfl) ?_
    obtain ⟨h1, hca, V2, hY1, hf2, hP2⟩ := jt_29a hY ⟨hB, h12, ⟨TB, h14, hTB⟩, ⟨TG, g, h16, hg, hq⟩, ⟨TK, k, h17, hk⟩, TT, h19, hT⟩ n1 n2
    refine Jcallv (b := 12) hY (show mx_Sn _ _ 78 (mx_callv 29 3 4 81) from sn_26 78) rfl h12 hca rfl rfl ?_
    have hY := hY1
    have e14 : V2 14 = ar 7315 TB := (hf2 14 rfl).trans h14
    have hf2 := hf2.mono (l2 := [14, 16, 17, 19]) rfl
    clear h14
    have h14 := e14
    obtain ⟨hB, h12, -, ⟨TG, g, h16, hg, hq⟩, ⟨TK, k, h17, hk⟩, TT, h19, hT⟩ := hP2
    refine mx_J.step (sn_26 81) (fun _ _ => rfl) ?_
    refine mx_J.step (sn_26 83) (fun _ _ => rfl) ?_
    refine Jgetf hY (show mx_Sn _ _ 84 (mx_getf 4 3 87) from sn_26 84) rfl h12 rfl ?_
    refine mx_J.step (sn_26 87) (fun _ _ => rfl) ?_
    refine mx_J.step (sn_26 88) (fun _ _ => rfl) ?_
    refine Jgetf hY (show mx_Sn _ _ 89 (mx_getf 4 2 92) from sn_26 89) rfl h12 rfl ?_
    refine mx_J.step (sn_26 92) (fun _ _ => rfl) ?_
    refine mx_J.step (sn_26 94) (fun _ _ => rfl) ?_
    refine mx_J.step (sn_26 95) (fun _ _ => rfl) ?_
    refine mx_J.step (sn_26 97) (fun _ _ => rfl) ?_
    refine mx_J.step (sn_26 98) (fun _ _ => rfl) ?_
    refine mx_J.step (sn_26 99) (fun _ _ => rfl) ?_
    refine Jiast (i := 0) hY (show mx_Sn _ _ 100 (mx_iast 1 101) from sn_26 100) rfl rfl h14 (by decide +kernel) (by decide) (fun h hY => ?_)
    refine mx_J.step (sn_26 101) (fun _ _ => rfl) ?_
    refine Jgetf hY (show mx_Sn _ _ 102 (mx_getf 4 3 105) from sn_26 102) rfl h12 rfl ?_
    refine mx_J.step (sn_26 105) (fun _ _ => rfl) ?_
    refine Jiald (i := 0) hY (show mx_Sn _ _ 106 (mx_iald 107) from sn_26 106) rfl rfl (by decide +kernel) (gs_eq (by decide)) ?_
    refine mx_J.step (sn_26 107) (fun _ _ => rfl) ?_
    refine mx_J.step (sn_26 110) (fun _ _ => rfl) ?_
    refine mx_J.step (sn_26 111) (fun _ _ => rfl) ?_
    refine mx_J.step (sn_26 112) (fun _ _ => rfl) ?_
    have hf3 := frY (l := [14, 16, 17, 19]) hY (fr.up hf2 rfl)
    have hB := KB.fr hB (frY (l := [14]) hY (fr.up fr.rfl' rfl)) rfl
    exact mx_J.ret (sn_26 113) (fun _ _ => rfl) ⟨by show some (Value.int (((nI ne <<< (10 &&& 31) ||| (0 + 1)) &&& 1023) - 1)) = _; rw [(pb1 ne n2).2, (pb1 ne n2).1], _, hY, hf3, ⟨hB, h12, ⟨_, rfl, fun i hi => hTB2 hTB hi (by decide) (Or.inr ⟨ne, n1, Nat.le_refl _, (pb1 ne n2).2⟩)⟩, ⟨TG, g, h16, hg, hq⟩, ⟨TK, k, h17, hk⟩, TT, h19, hT⟩⟩
set_option maxHeartbeats 300000 in
set_option maxRecDepth 100000 in
theorem jt_26_1 {ne : Nat} (hY : YH 84 62986 V h) (hP : PC V ne) (n1 : 1 ≤ ne) (n2 : ne < 64) : ∃ h2, mx_Ca (tB l D b0 ad Hb tau) 27 26 [.ref 12, .int 0, .int 1] h (some (.int 0), h2) ∧ ∃ V2, YH 84 62986 V2 h2 ∧ fr [14, 16, 17, 19] V V2 ∧ PC V2 ne := by
  obtain ⟨hB, h12, ⟨TB, h14, hTB⟩, ⟨TG, g, h16, hg, hq⟩, ⟨TK, k, h17, hk⟩, TT, h19, hT⟩ := hP
  obtain ⟨b, hb, hqb⟩ := hTB 1 (by decide)
  have hqb : qb ne 1 b := hqb
  refine Jm (M := (prog_6_method_4_code, 6, "TitheHeap$Mill", "behind", (Option.some Jvm.ClassFile.FieldType.int))) rfl rfl rfl rfl rfl ?_
  show mx_J _ _ _ 0 [some (.ref 12), some (.int 0), some (.int 1), none, none, none] [] h _
  refine mx_J.step (sn_26 0) (fun _ _ => rfl) ?_
  refine Jif_lt_f (show mx_Sn _ _ 1 (mx_if_lt 25 4) from sn_26 1) (by decide +kernel) ?_
  refine mx_J.step (sn_26 4) (fun _ _ => rfl) ?_
  refine mx_J.step (sn_26 5) (fun _ _ => rfl) ?_
  refine Jgetf hY (show mx_Sn _ _ 6 (mx_getf 4 0 9) from sn_26 6) rfl h12 rfl ?_
  refine Jgetf hY (show mx_Sn _ _ 9 (mx_getf 0 5 12) from sn_26 9) rfl (kb_7 hB) rfl ?_
  refine Jicmp_ge_f (show mx_Sn _ _ 12 (mx_icmp_ge 25 15) from sn_26 12) (by decide +kernel) ?_
  refine mx_J.step (sn_26 15) (fun _ _ => rfl) ?_
  refine Jif_lt_f (show mx_Sn _ _ 16 (mx_if_lt 25 19) from sn_26 16) (by decide +kernel) ?_
  refine mx_J.step (sn_26 19) (fun _ _ => rfl) ?_
  refine mx_J.step (sn_26 20) (fun _ _ => rfl) ?_
  refine Jicmp_le_t (show mx_Sn _ _ 22 (mx_icmp_le 27 25) from sn_26 22) (by decide +kernel) ?_
  refine mx_J.step (sn_26 27) (fun _ _ => rfl) ?_
  refine mx_J.step (sn_26 28) (fun _ _ => rfl) ?_
  refine mx_J.step (sn_26 30) (fun _ _ => rfl) ?_
  refine mx_J.step (sn_26 31) (fun _ _ => rfl) ?_
  refine mx_J.step (sn_26 32) (fun _ _ => rfl) ?_
  refine mx_J.step (sn_26 33) (fun _ _ => rfl) ?_
  refine mx_J.step (sn_26 34) (fun _ _ => rfl) ?_
  refine Jgetf hY (show mx_Sn _ _ 35 (mx_getf 4 3 38) from sn_26 35) rfl h12 rfl ?_
  refine mx_J.step (sn_26 38) (fun _ _ => rfl) ?_
  refine Jiald (i := 1) hY (show mx_Sn _ _ 39 (mx_iald 40) from sn_26 39) rfl h14 (by decide +kernel) (hb) ?_
  refine mx_J.step (sn_26 40) (fun _ _ => rfl) ?_
  refine mx_J.step (sn_26 42) (fun _ _ => rfl) ?_
  refine mx_J.step (sn_26 43) (fun _ _ => rfl) ?_
  refine Jgetf hY (show mx_Sn _ _ 44 (mx_getf 4 2 47) from sn_26 44) rfl h12 rfl ?_
  by_cases hkt : b >>> (10 &&& 31) = nI ne
  · refine Jicmp_eq_t (show mx_Sn _ _ 47 (mx_icmp_eq 101 50) from sn_26 47) hkt ?_
    refine mx_J.step (sn_26 101) (fun _ _ => rfl) ?_
    refine Jgetf hY (show mx_Sn _ _ 102 (mx_getf 4 3 105) from sn_26 102) rfl h12 rfl ?_
    refine mx_J.step (sn_26 105) (fun _ _ => rfl) ?_
    refine Jiald (i := 1) hY (show mx_Sn _ _ 106 (mx_iald 107) from sn_26 106) rfl h14 (by decide +kernel) (hb) ?_
    refine mx_J.step (sn_26 107) (fun _ _ => rfl) ?_
    refine mx_J.step (sn_26 110) (fun _ _ => rfl) ?_
    refine mx_J.step (sn_26 111) (fun _ _ => rfl) ?_
    refine mx_J.step (sn_26 112) (fun _ _ => rfl) ?_
    exact mx_J.ret (sn_26 113) (fun _ _ => rfl) ⟨by show some (Value.int ((b &&& 1023) - 1)) = _; rw [qb_hit1 hqb n1 n2 hkt], V, hY, fr.rfl', ⟨hB, h12, ⟨TB, h14, hTB⟩, ⟨TG, g, h16, hg, hq⟩, ⟨TK, k, h17, hk⟩, TT, h19, hT⟩⟩
  · refine Jicmp_eq_f (show mx_Sn _ _ 47 (mx_icmp_eq 101 50) from sn_26 47) hkt ?_
    refine mx_J.step (sn_26 50) (fun _ _ => rfl) ?_
    refine Jgetf hY (show mx_Sn _ _ 51 (mx_getf 4 0 54) from sn_26 51) rfl h12 rfl ?_
    refine mx_J.step (sn_26 54) (fun _ _ => rfl) ?_
    refine mx_J.step (sn_26 55) (fun _ _ => rfl) ?_
    obtain ⟨h1, hca, hY1⟩ := cl_7_1 hY hB
    refine Jcallv (b := 7) hY (show mx_Sn _ _ 56 (mx_callv 7 3 0 59) from sn_26 56) rfl (kb_7 hB) hca rfl rfl ?_
    have hY := hY1
    refine mx_J.step (sn_26 59) (fun _ _ => rfl) ?_
    refine mx_J.step (sn_26 61) (fun _ _ => rfl) ?_
    refine Jif_le_f (show mx_Sn _ _ 62 (mx_if_le 74 65) from sn_26 62) (by decide +kernel) ?_
    refine mx_J.step (sn_26 65) (fun _ _ => rfl) ?_
    refine Jif_ge_t (show mx_Sn _ _ 67 (mx_if_ge 74 70) from sn_26 67) (by decide +kernel) ?_
    refine mx_J.step (sn_26 74) (fun _ _ => rfl) ?_
    refine mx_J.step (sn_26 75) (fun _ _ => rfl) ?_
    refine mx_J.step (sn_26 76) (fun _ _ => rfl) ?_
    obtain ⟨h1, hca, V2, hY1, hf2, hP2⟩ := jt_29b hY ⟨hB, h12, ⟨TB, h14, hTB⟩, ⟨TG, g, h16, hg, hq⟩, ⟨TK, k, h17, hk⟩, TT, h19, hT⟩ n1 n2
    refine Jcallv (b := 12) hY (show mx_Sn _ _ 78 (mx_callv 29 3 4 81) from sn_26 78) rfl h12 hca rfl rfl ?_
    have hY := hY1
    have e14 : V2 14 = ar 7315 TB := (hf2 14 rfl).trans h14
    have hf2 := hf2.mono (l2 := [14, 16, 17, 19]) rfl
    clear h14
    have h14 := e14
    obtain ⟨hB, h12, -, ⟨TG, g, h16, hg, hq⟩, ⟨TK, k, h17, hk⟩, TT, h19, hT⟩ := hP2
    refine mx_J.step (sn_26 81) (fun _ _ => rfl) ?_
    refine mx_J.step (sn_26 83) (fun _ _ => rfl) ?_
    refine Jgetf hY (show mx_Sn _ _ 84 (mx_getf 4 3 87) from sn_26 84) rfl h12 rfl ?_
    refine mx_J.step (sn_26 87) (fun _ _ => rfl) ?_
    refine mx_J.step (sn_26 88) (fun _ _ => rfl) ?_
    refine Jgetf hY (show mx_Sn _ _ 89 (mx_getf 4 2 92) from sn_26 89) rfl h12 rfl ?_
    refine mx_J.step (sn_26 92) (fun _ _ => rfl) ?_
    refine mx_J.step (sn_26 94) (fun _ _ => rfl) ?_
    refine mx_J.step (sn_26 95) (fun _ _ => rfl) ?_
    refine mx_J.step (sn_26 97) (fun _ _ => rfl) ?_
    refine mx_J.step (sn_26 98) (fun _ _ => rfl) ?_
    refine mx_J.step (sn_26 99) (fun _ _ => rfl) ?_
    refine Jiast (i := 1) hY (show mx_Sn _ _ 100 (mx_iast 1 101) from sn_26 100) rfl rfl h14 (by decide +kernel) (by decide) (fun h hY => ?_)
    refine mx_J.step (sn_26 101) (fun _ _ => rfl) ?_
    refine Jgetf hY (show mx_Sn _ _ 102 (mx_getf 4 3 105) from sn_26 102) rfl h12 rfl ?_
    refine mx_J.step (sn_26 105) (fun _ _ => rfl) ?_
    refine Jiald (i := 1) hY (show mx_Sn _ _ 106 (mx_iald 107) from sn_26 106) rfl rfl (by decide +kernel) (gs_eq (by decide)) ?_
    refine mx_J.step (sn_26 107) (fun _ _ => rfl) ?_
    refine mx_J.step (sn_26 110) (fun _ _ => rfl) ?_
    refine mx_J.step (sn_26 111) (fun _ _ => rfl) ?_
    refine mx_J.step (sn_26 112) (fun _ _ => rfl) ?_
    have hf3 := frY (l := [14, 16, 17, 19]) hY (fr.up hf2 rfl)
    have hB := KB.fr hB (frY (l := [14]) hY (fr.up fr.rfl' rfl)) rfl
    exact mx_J.ret (sn_26 113) (fun _ _ => rfl) ⟨by show some (Value.int (((nI ne <<< (10 &&& 31) ||| (0 + 1)) &&& 1023) - 1)) = _; rw [(pb1 ne n2).2, (pb1 ne n2).1], _, hY, hf3, ⟨hB, h12, ⟨_, rfl, fun i hi => hTB2 hTB hi (by decide) (Or.inr ⟨ne, n1, Nat.le_refl _, (pb1 ne n2).2⟩)⟩, ⟨TG, g, h16, hg, hq⟩, ⟨TK, k, h17, hk⟩, TT, h19, hT⟩⟩
set_option maxHeartbeats 300000 in
set_option maxRecDepth 100000 in
theorem jt_26_2 {ne : Nat} (hY : YH 84 62986 V h) (hP : PC V ne) (n1 : 1 ≤ ne) (n2 : ne < 64) : ∃ h2, mx_Ca (tB l D b0 ad Hb tau) 27 26 [.ref 12, .int 0, .int 2] h (some (.int (-1)), h2) ∧ ∃ V2, YH 84 62986 V2 h2 ∧ fr [14, 16, 17, 19] V V2 ∧ PC V2 ne := by
  obtain ⟨hB, h12, ⟨TB, h14, hTB⟩, ⟨TG, g, h16, hg, hq⟩, ⟨TK, k, h17, hk⟩, TT, h19, hT⟩ := hP
  obtain ⟨b, hb, hqb⟩ := hTB 2 (by decide)
  have hqb : qb ne 0 b := hqb
  refine Jm (M := (prog_6_method_4_code, 6, "TitheHeap$Mill", "behind", (Option.some Jvm.ClassFile.FieldType.int))) rfl rfl rfl rfl rfl ?_
  show mx_J _ _ _ 0 [some (.ref 12), some (.int 0), some (.int 2), none, none, none] [] h _
  refine mx_J.step (sn_26 0) (fun _ _ => rfl) ?_
  refine Jif_lt_f (show mx_Sn _ _ 1 (mx_if_lt 25 4) from sn_26 1) (by decide +kernel) ?_
  refine mx_J.step (sn_26 4) (fun _ _ => rfl) ?_
  refine mx_J.step (sn_26 5) (fun _ _ => rfl) ?_
  refine Jgetf hY (show mx_Sn _ _ 6 (mx_getf 4 0 9) from sn_26 6) rfl h12 rfl ?_
  refine Jgetf hY (show mx_Sn _ _ 9 (mx_getf 0 5 12) from sn_26 9) rfl (kb_7 hB) rfl ?_
  refine Jicmp_ge_f (show mx_Sn _ _ 12 (mx_icmp_ge 25 15) from sn_26 12) (by decide +kernel) ?_
  refine mx_J.step (sn_26 15) (fun _ _ => rfl) ?_
  refine Jif_lt_f (show mx_Sn _ _ 16 (mx_if_lt 25 19) from sn_26 16) (by decide +kernel) ?_
  refine mx_J.step (sn_26 19) (fun _ _ => rfl) ?_
  refine mx_J.step (sn_26 20) (fun _ _ => rfl) ?_
  refine Jicmp_le_t (show mx_Sn _ _ 22 (mx_icmp_le 27 25) from sn_26 22) (by decide +kernel) ?_
  refine mx_J.step (sn_26 27) (fun _ _ => rfl) ?_
  refine mx_J.step (sn_26 28) (fun _ _ => rfl) ?_
  refine mx_J.step (sn_26 30) (fun _ _ => rfl) ?_
  refine mx_J.step (sn_26 31) (fun _ _ => rfl) ?_
  refine mx_J.step (sn_26 32) (fun _ _ => rfl) ?_
  refine mx_J.step (sn_26 33) (fun _ _ => rfl) ?_
  refine mx_J.step (sn_26 34) (fun _ _ => rfl) ?_
  refine Jgetf hY (show mx_Sn _ _ 35 (mx_getf 4 3 38) from sn_26 35) rfl h12 rfl ?_
  refine mx_J.step (sn_26 38) (fun _ _ => rfl) ?_
  refine Jiald (i := 2) hY (show mx_Sn _ _ 39 (mx_iald 40) from sn_26 39) rfl h14 (by decide +kernel) (hb) ?_
  refine mx_J.step (sn_26 40) (fun _ _ => rfl) ?_
  refine mx_J.step (sn_26 42) (fun _ _ => rfl) ?_
  refine mx_J.step (sn_26 43) (fun _ _ => rfl) ?_
  refine Jgetf hY (show mx_Sn _ _ 44 (mx_getf 4 2 47) from sn_26 44) rfl h12 rfl ?_
  by_cases hkt : b >>> (10 &&& 31) = nI ne
  · refine Jicmp_eq_t (show mx_Sn _ _ 47 (mx_icmp_eq 101 50) from sn_26 47) hkt ?_
    refine mx_J.step (sn_26 101) (fun _ _ => rfl) ?_
    refine Jgetf hY (show mx_Sn _ _ 102 (mx_getf 4 3 105) from sn_26 102) rfl h12 rfl ?_
    refine mx_J.step (sn_26 105) (fun _ _ => rfl) ?_
    refine Jiald (i := 2) hY (show mx_Sn _ _ 106 (mx_iald 107) from sn_26 106) rfl h14 (by decide +kernel) (hb) ?_
    refine mx_J.step (sn_26 107) (fun _ _ => rfl) ?_
    refine mx_J.step (sn_26 110) (fun _ _ => rfl) ?_
    refine mx_J.step (sn_26 111) (fun _ _ => rfl) ?_
    refine mx_J.step (sn_26 112) (fun _ _ => rfl) ?_
    exact mx_J.ret (sn_26 113) (fun _ _ => rfl) ⟨by show some (Value.int ((b &&& 1023) - 1)) = _; rw [qb_hit0 hqb n1 n2 hkt], V, hY, fr.rfl', ⟨hB, h12, ⟨TB, h14, hTB⟩, ⟨TG, g, h16, hg, hq⟩, ⟨TK, k, h17, hk⟩, TT, h19, hT⟩⟩
  · refine Jicmp_eq_f (show mx_Sn _ _ 47 (mx_icmp_eq 101 50) from sn_26 47) hkt ?_
    refine mx_J.step (sn_26 50) (fun _ _ => rfl) ?_
    refine Jgetf hY (show mx_Sn _ _ 51 (mx_getf 4 0 54) from sn_26 51) rfl h12 rfl ?_
    refine mx_J.step (sn_26 54) (fun _ _ => rfl) ?_
    refine mx_J.step (sn_26 55) (fun _ _ => rfl) ?_
    obtain ⟨h1, hca, hY1⟩ := cl_7_2 hY hB
    refine Jcallv (b := 7) hY (show mx_Sn _ _ 56 (mx_callv 7 3 0 59) from sn_26 56) rfl (kb_7 hB) hca rfl rfl ?_
    have hY := hY1
    refine mx_J.step (sn_26 59) (fun _ _ => rfl) ?_
    refine mx_J.step (sn_26 61) (fun _ _ => rfl) ?_
    refine Jif_le_f (show mx_Sn _ _ 62 (mx_if_le 74 65) from sn_26 62) (by decide +kernel) ?_
    refine mx_J.step (sn_26 65) (fun _ _ => rfl) ?_
    refine Jif_ge_f (show mx_Sn _ _ 67 (mx_if_ge 74 70) from sn_26 67) (by decide +kernel) ?_
    refine mx_J.step (sn_26 70) (fun _ _ => rfl) ?_
    refine mx_J.step (sn_26 71) (fun _ _ => rfl) ?_
    refine mx_J.step (sn_26 81) (fun _ _ => rfl) ?_
    refine mx_J.step (sn_26 83) (fun _ _ => rfl) ?_
    refine Jgetf hY (show mx_Sn _ _ 84 (mx_getf 4 3 87) from sn_26 84) rfl h12 rfl ?_
    refine mx_J.step (sn_26 87) (fun _ _ => rfl) ?_
    refine mx_J.step (sn_26 88) (fun _ _ => rfl) ?_
    refine Jgetf hY (show mx_Sn _ _ 89 (mx_getf 4 2 92) from sn_26 89) rfl h12 rfl ?_
    refine mx_J.step (sn_26 92) (fun _ _ => rfl) ?_
    refine mx_J.step (sn_26 94) (fun _ _ => rfl) ?_
    refine mx_J.step (sn_26 95) (fun _ _ => rfl) ?_
    refine mx_J.step (sn_26 97) (fun _ _ => rfl) ?_
    refine mx_J.step (sn_26 98) (fun _ _ => rfl) ?_
    refine mx_J.step (sn_26 99) (fun _ _ => rfl) ?_
    refine Jiast (i := 2) hY (show mx_Sn _ _ 100 (mx_iast 1 101) from sn_26 100) rfl rfl h14 (by decide +kernel) (by decide) (fun h hY => ?_)
    refine mx_J.step (sn_26 101) (fun _ _ => rfl) ?_
    refine Jgetf hY (show mx_Sn _ _ 102 (mx_getf 4 3 105) from sn_26 102) rfl h12 rfl ?_
    refine mx_J.step (sn_26 105) (fun _ _ => rfl) ?_
    refine Jiald (i := 2) hY (show mx_Sn _ _ 106 (mx_iald 107) from sn_26 106) rfl rfl (by decide +kernel) (gs_eq (by decide)) ?_
    refine mx_J.step (sn_26 107) (fun _ _ => rfl) ?_
    refine mx_J.step (sn_26 110) (fun _ _ => rfl) ?_
    refine mx_J.step (sn_26 111) (fun _ _ => rfl) ?_
    refine mx_J.step (sn_26 112) (fun _ _ => rfl) ?_
    have hf2 : fr [14, 16, 17, 19] V V := fr.rfl'
    have hf3 := frY (l := [14, 16, 17, 19]) hY (fr.up hf2 rfl)
    have hB := KB.fr hB (frY (l := [14]) hY (fr.up fr.rfl' rfl)) rfl
    exact mx_J.ret (sn_26 113) (fun _ _ => rfl) ⟨by show some (Value.int (((nI ne <<< (10 &&& 31) ||| ((-1) + 1)) &&& 1023) - 1)) = _; rw [(pb0 ne n2).2, (pb0 ne n2).1], _, hY, hf3, ⟨hB, h12, ⟨_, rfl, fun i hi => hTB2 hTB hi (by decide) (Or.inr ⟨ne, n1, Nat.le_refl _, (pb0 ne n2).2⟩)⟩, ⟨TG, g, h16, hg, hq⟩, ⟨TK, k, h17, hk⟩, TT, h19, hT⟩⟩
set_option maxHeartbeats 300000 in
set_option maxRecDepth 100000 in
theorem jt_26_3 {ne : Nat} (hY : YH 84 62986 V h) (hP : PC V ne) (n1 : 1 ≤ ne) (n2 : ne < 64) : ∃ h2, mx_Ca (tB l D b0 ad Hb tau) 27 26 [.ref 12, .int 0, .int 3] h (some (.int (-1)), h2) ∧ ∃ V2, YH 84 62986 V2 h2 ∧ fr [14, 16, 17, 19] V V2 ∧ PC V2 ne := by
  obtain ⟨hB, h12, ⟨TB, h14, hTB⟩, ⟨TG, g, h16, hg, hq⟩, ⟨TK, k, h17, hk⟩, TT, h19, hT⟩ := hP
  obtain ⟨b, hb, hqb⟩ := hTB 3 (by decide)
  have hqb : qb ne 0 b := hqb
  refine Jm (M := (prog_6_method_4_code, 6, "TitheHeap$Mill", "behind", (Option.some Jvm.ClassFile.FieldType.int))) rfl rfl rfl rfl rfl ?_
  show mx_J _ _ _ 0 [some (.ref 12), some (.int 0), some (.int 3), none, none, none] [] h _
  refine mx_J.step (sn_26 0) (fun _ _ => rfl) ?_
  refine Jif_lt_f (show mx_Sn _ _ 1 (mx_if_lt 25 4) from sn_26 1) (by decide +kernel) ?_
  refine mx_J.step (sn_26 4) (fun _ _ => rfl) ?_
  refine mx_J.step (sn_26 5) (fun _ _ => rfl) ?_
  refine Jgetf hY (show mx_Sn _ _ 6 (mx_getf 4 0 9) from sn_26 6) rfl h12 rfl ?_
  refine Jgetf hY (show mx_Sn _ _ 9 (mx_getf 0 5 12) from sn_26 9) rfl (kb_7 hB) rfl ?_
  refine Jicmp_ge_f (show mx_Sn _ _ 12 (mx_icmp_ge 25 15) from sn_26 12) (by decide +kernel) ?_
  refine mx_J.step (sn_26 15) (fun _ _ => rfl) ?_
  refine Jif_lt_f (show mx_Sn _ _ 16 (mx_if_lt 25 19) from sn_26 16) (by decide +kernel) ?_
  refine mx_J.step (sn_26 19) (fun _ _ => rfl) ?_
  refine mx_J.step (sn_26 20) (fun _ _ => rfl) ?_
  refine Jicmp_le_t (show mx_Sn _ _ 22 (mx_icmp_le 27 25) from sn_26 22) (by decide +kernel) ?_
  refine mx_J.step (sn_26 27) (fun _ _ => rfl) ?_
  refine mx_J.step (sn_26 28) (fun _ _ => rfl) ?_
  refine mx_J.step (sn_26 30) (fun _ _ => rfl) ?_
  refine mx_J.step (sn_26 31) (fun _ _ => rfl) ?_
  refine mx_J.step (sn_26 32) (fun _ _ => rfl) ?_
  refine mx_J.step (sn_26 33) (fun _ _ => rfl) ?_
  refine mx_J.step (sn_26 34) (fun _ _ => rfl) ?_
  refine Jgetf hY (show mx_Sn _ _ 35 (mx_getf 4 3 38) from sn_26 35) rfl h12 rfl ?_
  refine mx_J.step (sn_26 38) (fun _ _ => rfl) ?_
  refine Jiald (i := 3) hY (show mx_Sn _ _ 39 (mx_iald 40) from sn_26 39) rfl h14 (by decide +kernel) (hb) ?_
  refine mx_J.step (sn_26 40) (fun _ _ => rfl) ?_
  refine mx_J.step (sn_26 42) (fun _ _ => rfl) ?_
  refine mx_J.step (sn_26 43) (fun _ _ => rfl) ?_
  refine Jgetf hY (show mx_Sn _ _ 44 (mx_getf 4 2 47) from sn_26 44) rfl h12 rfl ?_
  by_cases hkt : b >>> (10 &&& 31) = nI ne
  · refine Jicmp_eq_t (show mx_Sn _ _ 47 (mx_icmp_eq 101 50) from sn_26 47) hkt ?_
    refine mx_J.step (sn_26 101) (fun _ _ => rfl) ?_
    refine Jgetf hY (show mx_Sn _ _ 102 (mx_getf 4 3 105) from sn_26 102) rfl h12 rfl ?_
    refine mx_J.step (sn_26 105) (fun _ _ => rfl) ?_
    refine Jiald (i := 3) hY (show mx_Sn _ _ 106 (mx_iald 107) from sn_26 106) rfl h14 (by decide +kernel) (hb) ?_
    refine mx_J.step (sn_26 107) (fun _ _ => rfl) ?_
    refine mx_J.step (sn_26 110) (fun _ _ => rfl) ?_
    refine mx_J.step (sn_26 111) (fun _ _ => rfl) ?_
    refine mx_J.step (sn_26 112) (fun _ _ => rfl) ?_
    exact mx_J.ret (sn_26 113) (fun _ _ => rfl) ⟨by show some (Value.int ((b &&& 1023) - 1)) = _; rw [qb_hit0 hqb n1 n2 hkt], V, hY, fr.rfl', ⟨hB, h12, ⟨TB, h14, hTB⟩, ⟨TG, g, h16, hg, hq⟩, ⟨TK, k, h17, hk⟩, TT, h19, hT⟩⟩
  · refine Jicmp_eq_f (show mx_Sn _ _ 47 (mx_icmp_eq 101 50) from sn_26 47) hkt ?_
    refine mx_J.step (sn_26 50) (fun _ _ => rfl) ?_
    refine Jgetf hY (show mx_Sn _ _ 51 (mx_getf 4 0 54) from sn_26 51) rfl h12 rfl ?_
    refine mx_J.step (sn_26 54) (fun _ _ => rfl) ?_
    refine mx_J.step (sn_26 55) (fun _ _ => rfl) ?_
    obtain ⟨h1, hca, hY1⟩ := cl_7_3 hY hB
    refine Jcallv (b := 7) hY (show mx_Sn _ _ 56 (mx_callv 7 3 0 59) from sn_26 56) rfl (kb_7 hB) hca rfl rfl ?_
    have hY := hY1
    refine mx_J.step (sn_26 59) (fun _ _ => rfl) ?_
    refine mx_J.step (sn_26 61) (fun _ _ => rfl) ?_
    refine Jif_le_f (show mx_Sn _ _ 62 (mx_if_le 74 65) from sn_26 62) (by decide +kernel) ?_
    refine mx_J.step (sn_26 65) (fun _ _ => rfl) ?_
    refine Jif_ge_f (show mx_Sn _ _ 67 (mx_if_ge 74 70) from sn_26 67) (by decide +kernel) ?_
    refine mx_J.step (sn_26 70) (fun _ _ => rfl) ?_
    refine mx_J.step (sn_26 71) (fun _ _ => rfl) ?_
    refine mx_J.step (sn_26 81) (fun _ _ => rfl) ?_
    refine mx_J.step (sn_26 83) (fun _ _ => rfl) ?_
    refine Jgetf hY (show mx_Sn _ _ 84 (mx_getf 4 3 87) from sn_26 84) rfl h12 rfl ?_
    refine mx_J.step (sn_26 87) (fun _ _ => rfl) ?_
    refine mx_J.step (sn_26 88) (fun _ _ => rfl) ?_
    refine Jgetf hY (show mx_Sn _ _ 89 (mx_getf 4 2 92) from sn_26 89) rfl h12 rfl ?_
    refine mx_J.step (sn_26 92) (fun _ _ => rfl) ?_
    refine mx_J.step (sn_26 94) (fun _ _ => rfl) ?_
    refine mx_J.step (sn_26 95) (fun _ _ => rfl) ?_
    refine mx_J.step (sn_26 97) (fun _ _ => rfl) ?_
    refine mx_J.step (sn_26 98) (fun _ _ => rfl) ?_
    refine mx_J.step (sn_26 99) (fun _ _ => rfl) ?_
    refine Jiast (i := 3) hY (show mx_Sn _ _ 100 (mx_iast 1 101) from sn_26 100) rfl rfl h14 (by decide +kernel) (by decide) (fun h hY => ?_)
    refine mx_J.step (sn_26 101) (fun _ _ => rfl) ?_
    refine Jgetf hY (show mx_Sn _ _ 102 (mx_getf 4 3 105) from sn_26 102) rfl h12 rfl ?_
    refine mx_J.step (sn_26 105) (fun _ _ => rfl) ?_
    refine Jiald (i := 3) hY (show mx_Sn _ _ 106 (mx_iald 107) from sn_26 106) rfl rfl (by decide +kernel) (gs_eq (by decide)) ?_
    refine mx_J.step (sn_26 107) (fun _ _ => rfl) ?_
    refine mx_J.step (sn_26 110) (fun _ _ => rfl) ?_
    refine mx_J.step (sn_26 111) (fun _ _ => rfl) ?_
    refine mx_J.step (sn_26 112) (fun _ _ => rfl) ?_
    have hf2 : fr [14, 16, 17, 19] V V := fr.rfl'
    have hf3 := frY (l := [14, 16, 17, 19]) hY (fr.up hf2 rfl)
    have hB := KB.fr hB (frY (l := [14]) hY (fr.up fr.rfl' rfl)) rfl
    exact mx_J.ret (sn_26 113) (fun _ _ => rfl) ⟨by show some (Value.int (((nI ne <<< (10 &&& 31) ||| ((-1) + 1)) &&& 1023) - 1)) = _; rw [(pb0 ne n2).2, (pb0 ne n2).1], _, hY, hf3, ⟨hB, h12, ⟨_, rfl, fun i hi => hTB2 hTB hi (by decide) (Or.inr ⟨ne, n1, Nat.le_refl _, (pb0 ne n2).2⟩)⟩, ⟨TG, g, h16, hg, hq⟩, ⟨TK, k, h17, hk⟩, TT, h19, hT⟩⟩
set_option maxHeartbeats 300000 in
set_option maxRecDepth 100000 in
theorem jt_26_4 {ne : Nat} (hY : YH 84 62986 V h) (hP : PC V ne) (n1 : 1 ≤ ne) (n2 : ne < 64) : ∃ h2, mx_Ca (tB l D b0 ad Hb tau) 27 26 [.ref 12, .int 0, .int 4] h (some (.int (-1)), h2) ∧ ∃ V2, YH 84 62986 V2 h2 ∧ fr [14, 16, 17, 19] V V2 ∧ PC V2 ne := by
  obtain ⟨hB, h12, ⟨TB, h14, hTB⟩, ⟨TG, g, h16, hg, hq⟩, ⟨TK, k, h17, hk⟩, TT, h19, hT⟩ := hP
  obtain ⟨b, hb, hqb⟩ := hTB 4 (by decide)
  have hqb : qb ne 0 b := hqb
  refine Jm (M := (prog_6_method_4_code, 6, "TitheHeap$Mill", "behind", (Option.some Jvm.ClassFile.FieldType.int))) rfl rfl rfl rfl rfl ?_
  show mx_J _ _ _ 0 [some (.ref 12), some (.int 0), some (.int 4), none, none, none] [] h _
  refine mx_J.step (sn_26 0) (fun _ _ => rfl) ?_
  refine Jif_lt_f (show mx_Sn _ _ 1 (mx_if_lt 25 4) from sn_26 1) (by decide +kernel) ?_
  refine mx_J.step (sn_26 4) (fun _ _ => rfl) ?_
  refine mx_J.step (sn_26 5) (fun _ _ => rfl) ?_
  refine Jgetf hY (show mx_Sn _ _ 6 (mx_getf 4 0 9) from sn_26 6) rfl h12 rfl ?_
  refine Jgetf hY (show mx_Sn _ _ 9 (mx_getf 0 5 12) from sn_26 9) rfl (kb_7 hB) rfl ?_
  refine Jicmp_ge_f (show mx_Sn _ _ 12 (mx_icmp_ge 25 15) from sn_26 12) (by decide +kernel) ?_
  refine mx_J.step (sn_26 15) (fun _ _ => rfl) ?_
  refine Jif_lt_f (show mx_Sn _ _ 16 (mx_if_lt 25 19) from sn_26 16) (by decide +kernel) ?_
  refine mx_J.step (sn_26 19) (fun _ _ => rfl) ?_
  refine mx_J.step (sn_26 20) (fun _ _ => rfl) ?_
  refine Jicmp_le_t (show mx_Sn _ _ 22 (mx_icmp_le 27 25) from sn_26 22) (by decide +kernel) ?_
  refine mx_J.step (sn_26 27) (fun _ _ => rfl) ?_
  refine mx_J.step (sn_26 28) (fun _ _ => rfl) ?_
  refine mx_J.step (sn_26 30) (fun _ _ => rfl) ?_
  refine mx_J.step (sn_26 31) (fun _ _ => rfl) ?_
  refine mx_J.step (sn_26 32) (fun _ _ => rfl) ?_
  refine mx_J.step (sn_26 33) (fun _ _ => rfl) ?_
  refine mx_J.step (sn_26 34) (fun _ _ => rfl) ?_
  refine Jgetf hY (show mx_Sn _ _ 35 (mx_getf 4 3 38) from sn_26 35) rfl h12 rfl ?_
  refine mx_J.step (sn_26 38) (fun _ _ => rfl) ?_
  refine Jiald (i := 4) hY (show mx_Sn _ _ 39 (mx_iald 40) from sn_26 39) rfl h14 (by decide +kernel) (hb) ?_
  refine mx_J.step (sn_26 40) (fun _ _ => rfl) ?_
  refine mx_J.step (sn_26 42) (fun _ _ => rfl) ?_
  refine mx_J.step (sn_26 43) (fun _ _ => rfl) ?_
  refine Jgetf hY (show mx_Sn _ _ 44 (mx_getf 4 2 47) from sn_26 44) rfl h12 rfl ?_
  by_cases hkt : b >>> (10 &&& 31) = nI ne
  · refine Jicmp_eq_t (show mx_Sn _ _ 47 (mx_icmp_eq 101 50) from sn_26 47) hkt ?_
    refine mx_J.step (sn_26 101) (fun _ _ => rfl) ?_
    refine Jgetf hY (show mx_Sn _ _ 102 (mx_getf 4 3 105) from sn_26 102) rfl h12 rfl ?_
    refine mx_J.step (sn_26 105) (fun _ _ => rfl) ?_
    refine Jiald (i := 4) hY (show mx_Sn _ _ 106 (mx_iald 107) from sn_26 106) rfl h14 (by decide +kernel) (hb) ?_
    refine mx_J.step (sn_26 107) (fun _ _ => rfl) ?_
    refine mx_J.step (sn_26 110) (fun _ _ => rfl) ?_
    refine mx_J.step (sn_26 111) (fun _ _ => rfl) ?_
    refine mx_J.step (sn_26 112) (fun _ _ => rfl) ?_
    exact mx_J.ret (sn_26 113) (fun _ _ => rfl) ⟨by show some (Value.int ((b &&& 1023) - 1)) = _; rw [qb_hit0 hqb n1 n2 hkt], V, hY, fr.rfl', ⟨hB, h12, ⟨TB, h14, hTB⟩, ⟨TG, g, h16, hg, hq⟩, ⟨TK, k, h17, hk⟩, TT, h19, hT⟩⟩
  · refine Jicmp_eq_f (show mx_Sn _ _ 47 (mx_icmp_eq 101 50) from sn_26 47) hkt ?_
    refine mx_J.step (sn_26 50) (fun _ _ => rfl) ?_
    refine Jgetf hY (show mx_Sn _ _ 51 (mx_getf 4 0 54) from sn_26 51) rfl h12 rfl ?_
    refine mx_J.step (sn_26 54) (fun _ _ => rfl) ?_
    refine mx_J.step (sn_26 55) (fun _ _ => rfl) ?_
    obtain ⟨h1, hca, hY1⟩ := cl_7_4 hY hB
    refine Jcallv (b := 7) hY (show mx_Sn _ _ 56 (mx_callv 7 3 0 59) from sn_26 56) rfl (kb_7 hB) hca rfl rfl ?_
    have hY := hY1
    refine mx_J.step (sn_26 59) (fun _ _ => rfl) ?_
    refine mx_J.step (sn_26 61) (fun _ _ => rfl) ?_
    refine Jif_le_f (show mx_Sn _ _ 62 (mx_if_le 74 65) from sn_26 62) (by decide +kernel) ?_
    refine mx_J.step (sn_26 65) (fun _ _ => rfl) ?_
    refine Jif_ge_f (show mx_Sn _ _ 67 (mx_if_ge 74 70) from sn_26 67) (by decide +kernel) ?_
    refine mx_J.step (sn_26 70) (fun _ _ => rfl) ?_
    refine mx_J.step (sn_26 71) (fun _ _ => rfl) ?_
    refine mx_J.step (sn_26 81) (fun _ _ => rfl) ?_
    refine mx_J.step (sn_26 83) (fun _ _ => rfl) ?_
    refine Jgetf hY (show mx_Sn _ _ 84 (mx_getf 4 3 87) from sn_26 84) rfl h12 rfl ?_
    refine mx_J.step (sn_26 87) (fun _ _ => rfl) ?_
    refine mx_J.step (sn_26 88) (fun _ _ => rfl) ?_
    refine Jgetf hY (show mx_Sn _ _ 89 (mx_getf 4 2 92) from sn_26 89) rfl h12 rfl ?_
    refine mx_J.step (sn_26 92) (fun _ _ => rfl) ?_
    refine mx_J.step (sn_26 94) (fun _ _ => rfl) ?_
    refine mx_J.step (sn_26 95) (fun _ _ => rfl) ?_
    refine mx_J.step (sn_26 97) (fun _ _ => rfl) ?_
    refine mx_J.step (sn_26 98) (fun _ _ => rfl) ?_
    refine mx_J.step (sn_26 99) (fun _ _ => rfl) ?_
    refine Jiast (i := 4) hY (show mx_Sn _ _ 100 (mx_iast 1 101) from sn_26 100) rfl rfl h14 (by decide +kernel) (by decide) (fun h hY => ?_)
    refine mx_J.step (sn_26 101) (fun _ _ => rfl) ?_
    refine Jgetf hY (show mx_Sn _ _ 102 (mx_getf 4 3 105) from sn_26 102) rfl h12 rfl ?_
    refine mx_J.step (sn_26 105) (fun _ _ => rfl) ?_
    refine Jiald (i := 4) hY (show mx_Sn _ _ 106 (mx_iald 107) from sn_26 106) rfl rfl (by decide +kernel) (gs_eq (by decide)) ?_
    refine mx_J.step (sn_26 107) (fun _ _ => rfl) ?_
    refine mx_J.step (sn_26 110) (fun _ _ => rfl) ?_
    refine mx_J.step (sn_26 111) (fun _ _ => rfl) ?_
    refine mx_J.step (sn_26 112) (fun _ _ => rfl) ?_
    have hf2 : fr [14, 16, 17, 19] V V := fr.rfl'
    have hf3 := frY (l := [14, 16, 17, 19]) hY (fr.up hf2 rfl)
    have hB := KB.fr hB (frY (l := [14]) hY (fr.up fr.rfl' rfl)) rfl
    exact mx_J.ret (sn_26 113) (fun _ _ => rfl) ⟨by show some (Value.int (((nI ne <<< (10 &&& 31) ||| ((-1) + 1)) &&& 1023) - 1)) = _; rw [(pb0 ne n2).2, (pb0 ne n2).1], _, hY, hf3, ⟨hB, h12, ⟨_, rfl, fun i hi => hTB2 hTB hi (by decide) (Or.inr ⟨ne, n1, Nat.le_refl _, (pb0 ne n2).2⟩)⟩, ⟨TG, g, h16, hg, hq⟩, ⟨TK, k, h17, hk⟩, TT, h19, hT⟩⟩
set_option maxHeartbeats 300000 in
set_option maxRecDepth 100000 in
theorem jt_26_5 {ne : Nat} (hY : YH 84 62986 V h) (hP : PC V ne) (n1 : 1 ≤ ne) (n2 : ne < 64) : ∃ h2, mx_Ca (tB l D b0 ad Hb tau) 27 26 [.ref 12, .int 0, .int 5] h (some (.int (-1)), h2) ∧ ∃ V2, YH 84 62986 V2 h2 ∧ fr [14, 16, 17, 19] V V2 ∧ PC V2 ne := by
  obtain ⟨hB, h12, ⟨TB, h14, hTB⟩, ⟨TG, g, h16, hg, hq⟩, ⟨TK, k, h17, hk⟩, TT, h19, hT⟩ := hP
  obtain ⟨b, hb, hqb⟩ := hTB 5 (by decide)
  have hqb : qb ne 0 b := hqb
  refine Jm (M := (prog_6_method_4_code, 6, "TitheHeap$Mill", "behind", (Option.some Jvm.ClassFile.FieldType.int))) rfl rfl rfl rfl rfl ?_
  show mx_J _ _ _ 0 [some (.ref 12), some (.int 0), some (.int 5), none, none, none] [] h _
  refine mx_J.step (sn_26 0) (fun _ _ => rfl) ?_
  refine Jif_lt_f (show mx_Sn _ _ 1 (mx_if_lt 25 4) from sn_26 1) (by decide +kernel) ?_
  refine mx_J.step (sn_26 4) (fun _ _ => rfl) ?_
  refine mx_J.step (sn_26 5) (fun _ _ => rfl) ?_
  refine Jgetf hY (show mx_Sn _ _ 6 (mx_getf 4 0 9) from sn_26 6) rfl h12 rfl ?_
  refine Jgetf hY (show mx_Sn _ _ 9 (mx_getf 0 5 12) from sn_26 9) rfl (kb_7 hB) rfl ?_
  refine Jicmp_ge_f (show mx_Sn _ _ 12 (mx_icmp_ge 25 15) from sn_26 12) (by decide +kernel) ?_
  refine mx_J.step (sn_26 15) (fun _ _ => rfl) ?_
  refine Jif_lt_f (show mx_Sn _ _ 16 (mx_if_lt 25 19) from sn_26 16) (by decide +kernel) ?_
  refine mx_J.step (sn_26 19) (fun _ _ => rfl) ?_
  refine mx_J.step (sn_26 20) (fun _ _ => rfl) ?_
  refine Jicmp_le_t (show mx_Sn _ _ 22 (mx_icmp_le 27 25) from sn_26 22) (by decide +kernel) ?_
  refine mx_J.step (sn_26 27) (fun _ _ => rfl) ?_
  refine mx_J.step (sn_26 28) (fun _ _ => rfl) ?_
  refine mx_J.step (sn_26 30) (fun _ _ => rfl) ?_
  refine mx_J.step (sn_26 31) (fun _ _ => rfl) ?_
  refine mx_J.step (sn_26 32) (fun _ _ => rfl) ?_
  refine mx_J.step (sn_26 33) (fun _ _ => rfl) ?_
  refine mx_J.step (sn_26 34) (fun _ _ => rfl) ?_
  refine Jgetf hY (show mx_Sn _ _ 35 (mx_getf 4 3 38) from sn_26 35) rfl h12 rfl ?_
  refine mx_J.step (sn_26 38) (fun _ _ => rfl) ?_
  refine Jiald (i := 5) hY (show mx_Sn _ _ 39 (mx_iald 40) from sn_26 39) rfl h14 (by decide +kernel) (hb) ?_
  refine mx_J.step (sn_26 40) (fun _ _ => rfl) ?_
  refine mx_J.step (sn_26 42) (fun _ _ => rfl) ?_
  refine mx_J.step (sn_26 43) (fun _ _ => rfl) ?_
  refine Jgetf hY (show mx_Sn _ _ 44 (mx_getf 4 2 47) from sn_26 44) rfl h12 rfl ?_
  by_cases hkt : b >>> (10 &&& 31) = nI ne
  · refine Jicmp_eq_t (show mx_Sn _ _ 47 (mx_icmp_eq 101 50) from sn_26 47) hkt ?_
    refine mx_J.step (sn_26 101) (fun _ _ => rfl) ?_
    refine Jgetf hY (show mx_Sn _ _ 102 (mx_getf 4 3 105) from sn_26 102) rfl h12 rfl ?_
    refine mx_J.step (sn_26 105) (fun _ _ => rfl) ?_
    refine Jiald (i := 5) hY (show mx_Sn _ _ 106 (mx_iald 107) from sn_26 106) rfl h14 (by decide +kernel) (hb) ?_
    refine mx_J.step (sn_26 107) (fun _ _ => rfl) ?_
    refine mx_J.step (sn_26 110) (fun _ _ => rfl) ?_
    refine mx_J.step (sn_26 111) (fun _ _ => rfl) ?_
    refine mx_J.step (sn_26 112) (fun _ _ => rfl) ?_
    exact mx_J.ret (sn_26 113) (fun _ _ => rfl) ⟨by show some (Value.int ((b &&& 1023) - 1)) = _; rw [qb_hit0 hqb n1 n2 hkt], V, hY, fr.rfl', ⟨hB, h12, ⟨TB, h14, hTB⟩, ⟨TG, g, h16, hg, hq⟩, ⟨TK, k, h17, hk⟩, TT, h19, hT⟩⟩
  · refine Jicmp_eq_f (show mx_Sn _ _ 47 (mx_icmp_eq 101 50) from sn_26 47) hkt ?_
    refine mx_J.step (sn_26 50) (fun _ _ => rfl) ?_
    refine Jgetf hY (show mx_Sn _ _ 51 (mx_getf 4 0 54) from sn_26 51) rfl h12 rfl ?_
    refine mx_J.step (sn_26 54) (fun _ _ => rfl) ?_
    refine mx_J.step (sn_26 55) (fun _ _ => rfl) ?_
    obtain ⟨h1, hca, hY1⟩ := cl_7_5 hY hB
    refine Jcallv (b := 7) hY (show mx_Sn _ _ 56 (mx_callv 7 3 0 59) from sn_26 56) rfl (kb_7 hB) hca rfl rfl ?_
    have hY := hY1
    refine mx_J.step (sn_26 59) (fun _ _ => rfl) ?_
    refine mx_J.step (sn_26 61) (fun _ _ => rfl) ?_
    refine Jif_le_f (show mx_Sn _ _ 62 (mx_if_le 74 65) from sn_26 62) (by decide +kernel) ?_
    refine mx_J.step (sn_26 65) (fun _ _ => rfl) ?_
    refine Jif_ge_f (show mx_Sn _ _ 67 (mx_if_ge 74 70) from sn_26 67) (by decide +kernel) ?_
    refine mx_J.step (sn_26 70) (fun _ _ => rfl) ?_
    refine mx_J.step (sn_26 71) (fun _ _ => rfl) ?_
    refine mx_J.step (sn_26 81) (fun _ _ => rfl) ?_
    refine mx_J.step (sn_26 83) (fun _ _ => rfl) ?_
    refine Jgetf hY (show mx_Sn _ _ 84 (mx_getf 4 3 87) from sn_26 84) rfl h12 rfl ?_
    refine mx_J.step (sn_26 87) (fun _ _ => rfl) ?_
    refine mx_J.step (sn_26 88) (fun _ _ => rfl) ?_
    refine Jgetf hY (show mx_Sn _ _ 89 (mx_getf 4 2 92) from sn_26 89) rfl h12 rfl ?_
    refine mx_J.step (sn_26 92) (fun _ _ => rfl) ?_
    refine mx_J.step (sn_26 94) (fun _ _ => rfl) ?_
    refine mx_J.step (sn_26 95) (fun _ _ => rfl) ?_
    refine mx_J.step (sn_26 97) (fun _ _ => rfl) ?_
    refine mx_J.step (sn_26 98) (fun _ _ => rfl) ?_
    refine mx_J.step (sn_26 99) (fun _ _ => rfl) ?_
    refine Jiast (i := 5) hY (show mx_Sn _ _ 100 (mx_iast 1 101) from sn_26 100) rfl rfl h14 (by decide +kernel) (by decide) (fun h hY => ?_)
    refine mx_J.step (sn_26 101) (fun _ _ => rfl) ?_
    refine Jgetf hY (show mx_Sn _ _ 102 (mx_getf 4 3 105) from sn_26 102) rfl h12 rfl ?_
    refine mx_J.step (sn_26 105) (fun _ _ => rfl) ?_
    refine Jiald (i := 5) hY (show mx_Sn _ _ 106 (mx_iald 107) from sn_26 106) rfl rfl (by decide +kernel) (gs_eq (by decide)) ?_
    refine mx_J.step (sn_26 107) (fun _ _ => rfl) ?_
    refine mx_J.step (sn_26 110) (fun _ _ => rfl) ?_
    refine mx_J.step (sn_26 111) (fun _ _ => rfl) ?_
    refine mx_J.step (sn_26 112) (fun _ _ => rfl) ?_
    have hf2 : fr [14, 16, 17, 19] V V := fr.rfl'
    have hf3 := frY (l := [14, 16, 17, 19]) hY (fr.up hf2 rfl)
    have hB := KB.fr hB (frY (l := [14]) hY (fr.up fr.rfl' rfl)) rfl
    exact mx_J.ret (sn_26 113) (fun _ _ => rfl) ⟨by show some (Value.int (((nI ne <<< (10 &&& 31) ||| ((-1) + 1)) &&& 1023) - 1)) = _; rw [(pb0 ne n2).2, (pb0 ne n2).1], _, hY, hf3, ⟨hB, h12, ⟨_, rfl, fun i hi => hTB2 hTB hi (by decide) (Or.inr ⟨ne, n1, Nat.le_refl _, (pb0 ne n2).2⟩)⟩, ⟨TG, g, h16, hg, hq⟩, ⟨TK, k, h17, hk⟩, TT, h19, hT⟩⟩
set_option maxHeartbeats 300000 in
set_option maxRecDepth 100000 in
theorem jt_26_6 {ne : Nat} (hY : YH 84 62986 V h) (hP : PC V ne) (n1 : 1 ≤ ne) (n2 : ne < 64) : ∃ h2, mx_Ca (tB l D b0 ad Hb tau) 27 26 [.ref 12, .int 0, .int 6] h (some (.int (-1)), h2) ∧ ∃ V2, YH 84 62986 V2 h2 ∧ fr [14, 16, 17, 19] V V2 ∧ PC V2 ne := by
  obtain ⟨hB, h12, ⟨TB, h14, hTB⟩, ⟨TG, g, h16, hg, hq⟩, ⟨TK, k, h17, hk⟩, TT, h19, hT⟩ := hP
  obtain ⟨b, hb, hqb⟩ := hTB 6 (by decide)
  have hqb : qb ne 0 b := hqb
  refine Jm (M := (prog_6_method_4_code, 6, "TitheHeap$Mill", "behind", (Option.some Jvm.ClassFile.FieldType.int))) rfl rfl rfl rfl rfl ?_
  show mx_J _ _ _ 0 [some (.ref 12), some (.int 0), some (.int 6), none, none, none] [] h _
  refine mx_J.step (sn_26 0) (fun _ _ => rfl) ?_
  refine Jif_lt_f (show mx_Sn _ _ 1 (mx_if_lt 25 4) from sn_26 1) (by decide +kernel) ?_
  refine mx_J.step (sn_26 4) (fun _ _ => rfl) ?_
  refine mx_J.step (sn_26 5) (fun _ _ => rfl) ?_
  refine Jgetf hY (show mx_Sn _ _ 6 (mx_getf 4 0 9) from sn_26 6) rfl h12 rfl ?_
  refine Jgetf hY (show mx_Sn _ _ 9 (mx_getf 0 5 12) from sn_26 9) rfl (kb_7 hB) rfl ?_
  refine Jicmp_ge_f (show mx_Sn _ _ 12 (mx_icmp_ge 25 15) from sn_26 12) (by decide +kernel) ?_
  refine mx_J.step (sn_26 15) (fun _ _ => rfl) ?_
  refine Jif_lt_f (show mx_Sn _ _ 16 (mx_if_lt 25 19) from sn_26 16) (by decide +kernel) ?_
  refine mx_J.step (sn_26 19) (fun _ _ => rfl) ?_
  refine mx_J.step (sn_26 20) (fun _ _ => rfl) ?_
  refine Jicmp_le_t (show mx_Sn _ _ 22 (mx_icmp_le 27 25) from sn_26 22) (by decide +kernel) ?_
  refine mx_J.step (sn_26 27) (fun _ _ => rfl) ?_
  refine mx_J.step (sn_26 28) (fun _ _ => rfl) ?_
  refine mx_J.step (sn_26 30) (fun _ _ => rfl) ?_
  refine mx_J.step (sn_26 31) (fun _ _ => rfl) ?_
  refine mx_J.step (sn_26 32) (fun _ _ => rfl) ?_
  refine mx_J.step (sn_26 33) (fun _ _ => rfl) ?_
  refine mx_J.step (sn_26 34) (fun _ _ => rfl) ?_
  refine Jgetf hY (show mx_Sn _ _ 35 (mx_getf 4 3 38) from sn_26 35) rfl h12 rfl ?_
  refine mx_J.step (sn_26 38) (fun _ _ => rfl) ?_
  refine Jiald (i := 6) hY (show mx_Sn _ _ 39 (mx_iald 40) from sn_26 39) rfl h14 (by decide +kernel) (hb) ?_
  refine mx_J.step (sn_26 40) (fun _ _ => rfl) ?_
  refine mx_J.step (sn_26 42) (fun _ _ => rfl) ?_
  refine mx_J.step (sn_26 43) (fun _ _ => rfl) ?_
  refine Jgetf hY (show mx_Sn _ _ 44 (mx_getf 4 2 47) from sn_26 44) rfl h12 rfl ?_
  by_cases hkt : b >>> (10 &&& 31) = nI ne
  · refine Jicmp_eq_t (show mx_Sn _ _ 47 (mx_icmp_eq 101 50) from sn_26 47) hkt ?_
    refine mx_J.step (sn_26 101) (fun _ _ => rfl) ?_
    refine Jgetf hY (show mx_Sn _ _ 102 (mx_getf 4 3 105) from sn_26 102) rfl h12 rfl ?_
    refine mx_J.step (sn_26 105) (fun _ _ => rfl) ?_
    refine Jiald (i := 6) hY (show mx_Sn _ _ 106 (mx_iald 107) from sn_26 106) rfl h14 (by decide +kernel) (hb) ?_
    refine mx_J.step (sn_26 107) (fun _ _ => rfl) ?_
    refine mx_J.step (sn_26 110) (fun _ _ => rfl) ?_
    refine mx_J.step (sn_26 111) (fun _ _ => rfl) ?_
    refine mx_J.step (sn_26 112) (fun _ _ => rfl) ?_
    exact mx_J.ret (sn_26 113) (fun _ _ => rfl) ⟨by show some (Value.int ((b &&& 1023) - 1)) = _; rw [qb_hit0 hqb n1 n2 hkt], V, hY, fr.rfl', ⟨hB, h12, ⟨TB, h14, hTB⟩, ⟨TG, g, h16, hg, hq⟩, ⟨TK, k, h17, hk⟩, TT, h19, hT⟩⟩
  · refine Jicmp_eq_f (show mx_Sn _ _ 47 (mx_icmp_eq 101 50) from sn_26 47) hkt ?_
    refine mx_J.step (sn_26 50) (fun _ _ => rfl) ?_
    refine Jgetf hY (show mx_Sn _ _ 51 (mx_getf 4 0 54) from sn_26 51) rfl h12 rfl ?_
    refine mx_J.step (sn_26 54) (fun _ _ => rfl) ?_
    refine mx_J.step (sn_26 55) (fun _ _ => rfl) ?_
    obtain ⟨h1, hca, hY1⟩ := cl_7_6 hY hB
    refine Jcallv (b := 7) hY (show mx_Sn _ _ 56 (mx_callv 7 3 0 59) from sn_26 56) rfl (kb_7 hB) hca rfl rfl ?_
    have hY := hY1
    refine mx_J.step (sn_26 59) (fun _ _ => rfl) ?_
    refine mx_J.step (sn_26 61) (fun _ _ => rfl) ?_
    refine Jif_le_f (show mx_Sn _ _ 62 (mx_if_le 74 65) from sn_26 62) (by decide +kernel) ?_
    refine mx_J.step (sn_26 65) (fun _ _ => rfl) ?_
    refine Jif_ge_f (show mx_Sn _ _ 67 (mx_if_ge 74 70) from sn_26 67) (by decide +kernel) ?_
    refine mx_J.step (sn_26 70) (fun _ _ => rfl) ?_
    refine mx_J.step (sn_26 71) (fun _ _ => rfl) ?_
    refine mx_J.step (sn_26 81) (fun _ _ => rfl) ?_
    refine mx_J.step (sn_26 83) (fun _ _ => rfl) ?_
    refine Jgetf hY (show mx_Sn _ _ 84 (mx_getf 4 3 87) from sn_26 84) rfl h12 rfl ?_
    refine mx_J.step (sn_26 87) (fun _ _ => rfl) ?_
    refine mx_J.step (sn_26 88) (fun _ _ => rfl) ?_
    refine Jgetf hY (show mx_Sn _ _ 89 (mx_getf 4 2 92) from sn_26 89) rfl h12 rfl ?_
    refine mx_J.step (sn_26 92) (fun _ _ => rfl) ?_
    refine mx_J.step (sn_26 94) (fun _ _ => rfl) ?_
    refine mx_J.step (sn_26 95) (fun _ _ => rfl) ?_
    refine mx_J.step (sn_26 97) (fun _ _ => rfl) ?_
    refine mx_J.step (sn_26 98) (fun _ _ => rfl) ?_
    refine mx_J.step (sn_26 99) (fun _ _ => rfl) ?_
    refine Jiast (i := 6) hY (show mx_Sn _ _ 100 (mx_iast 1 101) from sn_26 100) rfl rfl h14 (by decide +kernel) (by decide) (fun h hY => ?_)
    refine mx_J.step (sn_26 101) (fun _ _ => rfl) ?_
    refine Jgetf hY (show mx_Sn _ _ 102 (mx_getf 4 3 105) from sn_26 102) rfl h12 rfl ?_
    refine mx_J.step (sn_26 105) (fun _ _ => rfl) ?_
    refine Jiald (i := 6) hY (show mx_Sn _ _ 106 (mx_iald 107) from sn_26 106) rfl rfl (by decide +kernel) (gs_eq (by decide)) ?_
    refine mx_J.step (sn_26 107) (fun _ _ => rfl) ?_
    refine mx_J.step (sn_26 110) (fun _ _ => rfl) ?_
    refine mx_J.step (sn_26 111) (fun _ _ => rfl) ?_
    refine mx_J.step (sn_26 112) (fun _ _ => rfl) ?_
    have hf2 : fr [14, 16, 17, 19] V V := fr.rfl'
    have hf3 := frY (l := [14, 16, 17, 19]) hY (fr.up hf2 rfl)
    have hB := KB.fr hB (frY (l := [14]) hY (fr.up fr.rfl' rfl)) rfl
    exact mx_J.ret (sn_26 113) (fun _ _ => rfl) ⟨by show some (Value.int (((nI ne <<< (10 &&& 31) ||| ((-1) + 1)) &&& 1023) - 1)) = _; rw [(pb0 ne n2).2, (pb0 ne n2).1], _, hY, hf3, ⟨hB, h12, ⟨_, rfl, fun i hi => hTB2 hTB hi (by decide) (Or.inr ⟨ne, n1, Nat.le_refl _, (pb0 ne n2).2⟩)⟩, ⟨TG, g, h16, hg, hq⟩, ⟨TK, k, h17, hk⟩, TT, h19, hT⟩⟩
set_option maxHeartbeats 300000 in
set_option maxRecDepth 100000 in
theorem jt_26_7 {ne : Nat} (hY : YH 84 62986 V h) (hP : PC V ne) (n1 : 1 ≤ ne) (n2 : ne < 64) : ∃ h2, mx_Ca (tB l D b0 ad Hb tau) 27 26 [.ref 12, .int 0, .int 7] h (some (.int (-1)), h2) ∧ ∃ V2, YH 84 62986 V2 h2 ∧ fr [14, 16, 17, 19] V V2 ∧ PC V2 ne := by
  obtain ⟨hB, h12, ⟨TB, h14, hTB⟩, ⟨TG, g, h16, hg, hq⟩, ⟨TK, k, h17, hk⟩, TT, h19, hT⟩ := hP
  obtain ⟨b, hb, hqb⟩ := hTB 7 (by decide)
  have hqb : qb ne 0 b := hqb
  refine Jm (M := (prog_6_method_4_code, 6, "TitheHeap$Mill", "behind", (Option.some Jvm.ClassFile.FieldType.int))) rfl rfl rfl rfl rfl ?_
  show mx_J _ _ _ 0 [some (.ref 12), some (.int 0), some (.int 7), none, none, none] [] h _
  refine mx_J.step (sn_26 0) (fun _ _ => rfl) ?_
  refine Jif_lt_f (show mx_Sn _ _ 1 (mx_if_lt 25 4) from sn_26 1) (by decide +kernel) ?_
  refine mx_J.step (sn_26 4) (fun _ _ => rfl) ?_
  refine mx_J.step (sn_26 5) (fun _ _ => rfl) ?_
  refine Jgetf hY (show mx_Sn _ _ 6 (mx_getf 4 0 9) from sn_26 6) rfl h12 rfl ?_
  refine Jgetf hY (show mx_Sn _ _ 9 (mx_getf 0 5 12) from sn_26 9) rfl (kb_7 hB) rfl ?_
  refine Jicmp_ge_f (show mx_Sn _ _ 12 (mx_icmp_ge 25 15) from sn_26 12) (by decide +kernel) ?_
  refine mx_J.step (sn_26 15) (fun _ _ => rfl) ?_
  refine Jif_lt_f (show mx_Sn _ _ 16 (mx_if_lt 25 19) from sn_26 16) (by decide +kernel) ?_
  refine mx_J.step (sn_26 19) (fun _ _ => rfl) ?_
  refine mx_J.step (sn_26 20) (fun _ _ => rfl) ?_
  refine Jicmp_le_t (show mx_Sn _ _ 22 (mx_icmp_le 27 25) from sn_26 22) (by decide +kernel) ?_
  refine mx_J.step (sn_26 27) (fun _ _ => rfl) ?_
  refine mx_J.step (sn_26 28) (fun _ _ => rfl) ?_
  refine mx_J.step (sn_26 30) (fun _ _ => rfl) ?_
  refine mx_J.step (sn_26 31) (fun _ _ => rfl) ?_
  refine mx_J.step (sn_26 32) (fun _ _ => rfl) ?_
  refine mx_J.step (sn_26 33) (fun _ _ => rfl) ?_
  refine mx_J.step (sn_26 34) (fun _ _ => rfl) ?_
  refine Jgetf hY (show mx_Sn _ _ 35 (mx_getf 4 3 38) from sn_26 35) rfl h12 rfl ?_
  refine mx_J.step (sn_26 38) (fun _ _ => rfl) ?_
  refine Jiald (i := 7) hY (show mx_Sn _ _ 39 (mx_iald 40) from sn_26 39) rfl h14 (by decide +kernel) (hb) ?_
  refine mx_J.step (sn_26 40) (fun _ _ => rfl) ?_
  refine mx_J.step (sn_26 42) (fun _ _ => rfl) ?_
  refine mx_J.step (sn_26 43) (fun _ _ => rfl) ?_
  refine Jgetf hY (show mx_Sn _ _ 44 (mx_getf 4 2 47) from sn_26 44) rfl h12 rfl ?_
  by_cases hkt : b >>> (10 &&& 31) = nI ne
  · refine Jicmp_eq_t (show mx_Sn _ _ 47 (mx_icmp_eq 101 50) from sn_26 47) hkt ?_
    refine mx_J.step (sn_26 101) (fun _ _ => rfl) ?_
    refine Jgetf hY (show mx_Sn _ _ 102 (mx_getf 4 3 105) from sn_26 102) rfl h12 rfl ?_
    refine mx_J.step (sn_26 105) (fun _ _ => rfl) ?_
    refine Jiald (i := 7) hY (show mx_Sn _ _ 106 (mx_iald 107) from sn_26 106) rfl h14 (by decide +kernel) (hb) ?_
    refine mx_J.step (sn_26 107) (fun _ _ => rfl) ?_
    refine mx_J.step (sn_26 110) (fun _ _ => rfl) ?_
    refine mx_J.step (sn_26 111) (fun _ _ => rfl) ?_
    refine mx_J.step (sn_26 112) (fun _ _ => rfl) ?_
    exact mx_J.ret (sn_26 113) (fun _ _ => rfl) ⟨by show some (Value.int ((b &&& 1023) - 1)) = _; rw [qb_hit0 hqb n1 n2 hkt], V, hY, fr.rfl', ⟨hB, h12, ⟨TB, h14, hTB⟩, ⟨TG, g, h16, hg, hq⟩, ⟨TK, k, h17, hk⟩, TT, h19, hT⟩⟩
  · refine Jicmp_eq_f (show mx_Sn _ _ 47 (mx_icmp_eq 101 50) from sn_26 47) hkt ?_
    refine mx_J.step (sn_26 50) (fun _ _ => rfl) ?_
    refine Jgetf hY (show mx_Sn _ _ 51 (mx_getf 4 0 54) from sn_26 51) rfl h12 rfl ?_
    refine mx_J.step (sn_26 54) (fun _ _ => rfl) ?_
    refine mx_J.step (sn_26 55) (fun _ _ => rfl) ?_
    obtain ⟨h1, hca, hY1⟩ := cl_7_7 hY hB
    refine Jcallv (b := 7) hY (show mx_Sn _ _ 56 (mx_callv 7 3 0 59) from sn_26 56) rfl (kb_7 hB) hca rfl rfl ?_
    have hY := hY1
    refine mx_J.step (sn_26 59) (fun _ _ => rfl) ?_
    refine mx_J.step (sn_26 61) (fun _ _ => rfl) ?_
    refine Jif_le_f (show mx_Sn _ _ 62 (mx_if_le 74 65) from sn_26 62) (by decide +kernel) ?_
    refine mx_J.step (sn_26 65) (fun _ _ => rfl) ?_
    refine Jif_ge_f (show mx_Sn _ _ 67 (mx_if_ge 74 70) from sn_26 67) (by decide +kernel) ?_
    refine mx_J.step (sn_26 70) (fun _ _ => rfl) ?_
    refine mx_J.step (sn_26 71) (fun _ _ => rfl) ?_
    refine mx_J.step (sn_26 81) (fun _ _ => rfl) ?_
    refine mx_J.step (sn_26 83) (fun _ _ => rfl) ?_
    refine Jgetf hY (show mx_Sn _ _ 84 (mx_getf 4 3 87) from sn_26 84) rfl h12 rfl ?_
    refine mx_J.step (sn_26 87) (fun _ _ => rfl) ?_
    refine mx_J.step (sn_26 88) (fun _ _ => rfl) ?_
    refine Jgetf hY (show mx_Sn _ _ 89 (mx_getf 4 2 92) from sn_26 89) rfl h12 rfl ?_
    refine mx_J.step (sn_26 92) (fun _ _ => rfl) ?_
    refine mx_J.step (sn_26 94) (fun _ _ => rfl) ?_
    refine mx_J.step (sn_26 95) (fun _ _ => rfl) ?_
    refine mx_J.step (sn_26 97) (fun _ _ => rfl) ?_
    refine mx_J.step (sn_26 98) (fun _ _ => rfl) ?_
    refine mx_J.step (sn_26 99) (fun _ _ => rfl) ?_
    refine Jiast (i := 7) hY (show mx_Sn _ _ 100 (mx_iast 1 101) from sn_26 100) rfl rfl h14 (by decide +kernel) (by decide) (fun h hY => ?_)
    refine mx_J.step (sn_26 101) (fun _ _ => rfl) ?_
    refine Jgetf hY (show mx_Sn _ _ 102 (mx_getf 4 3 105) from sn_26 102) rfl h12 rfl ?_
    refine mx_J.step (sn_26 105) (fun _ _ => rfl) ?_
    refine Jiald (i := 7) hY (show mx_Sn _ _ 106 (mx_iald 107) from sn_26 106) rfl rfl (by decide +kernel) (gs_eq (by decide)) ?_
    refine mx_J.step (sn_26 107) (fun _ _ => rfl) ?_
    refine mx_J.step (sn_26 110) (fun _ _ => rfl) ?_
    refine mx_J.step (sn_26 111) (fun _ _ => rfl) ?_
    refine mx_J.step (sn_26 112) (fun _ _ => rfl) ?_
    have hf2 : fr [14, 16, 17, 19] V V := fr.rfl'
    have hf3 := frY (l := [14, 16, 17, 19]) hY (fr.up hf2 rfl)
    have hB := KB.fr hB (frY (l := [14]) hY (fr.up fr.rfl' rfl)) rfl
    exact mx_J.ret (sn_26 113) (fun _ _ => rfl) ⟨by show some (Value.int (((nI ne <<< (10 &&& 31) ||| ((-1) + 1)) &&& 1023) - 1)) = _; rw [(pb0 ne n2).2, (pb0 ne n2).1], _, hY, hf3, ⟨hB, h12, ⟨_, rfl, fun i hi => hTB2 hTB hi (by decide) (Or.inr ⟨ne, n1, Nat.le_refl _, (pb0 ne n2).2⟩)⟩, ⟨TG, g, h16, hg, hq⟩, ⟨TK, k, h17, hk⟩, TT, h19, hT⟩⟩
set_option maxHeartbeats 300000 in
set_option maxRecDepth 100000 in
theorem jt_140_0 {ne : Nat} {s mc : Int32} (hY : YH 84 62986 V h) (hP : PC V ne) (h38 : V 38 = D38 s mc) (n1 : 1 ≤ ne) (n2 : ne < 63) : ∃ h2, mx_Ca (tB l D b0 ad Hb tau) 28 140 [.ref 1, .ref 38, .int 0] h (some (.int 0), h2) ∧ ∃ V2 ne2 mc2, YH 84 62986 V2 h2 ∧ fr [12, 14, 16, 17, 19, 38] V V2 ∧ PC V2 ne2 ∧ V2 38 = D38 s mc2 ∧ ne ≤ ne2 ∧ ne2 ≤ ne + 1 := by
  refine Jm (M := (prog_1_method_53_code, 4, "TitheHeap", "moonDeed", (Option.some Jvm.ClassFile.FieldType.int))) rfl rfl rfl rfl rfl ?_
  show mx_J _ _ _ 0 [some (.ref 1), some (.ref 38), some (.int 0), none] [] h _
  refine mx_J.step (sn_140 0) (fun _ _ => rfl) ?_
  refine Jif_lt_f (show mx_Sn _ _ 1 (mx_if_lt 10 4) from sn_140 1) (by decide +kernel) ?_
  refine mx_J.step (sn_140 4) (fun _ _ => rfl) ?_
  refine mx_J.step (sn_140 5) (fun _ _ => rfl) ?_
  refine Jicmp_le_t (show mx_Sn _ _ 7 (mx_icmp_le 12 10) from sn_140 7) (by decide +kernel) ?_
  refine mx_J.step (sn_140 12) (fun _ _ => rfl) ?_
  refine Jgetf hY (show mx_Sn _ _ 13 (mx_getf 11 6 16) from sn_140 13) rfl (kb_1 hP.1) rfl ?_
  refine mx_J.step (sn_140 16) (fun _ _ => rfl) ?_
  refine Jgetf hY (show mx_Sn _ _ 17 (mx_getf 5 3 20) from sn_140 17) rfl h38 rfl ?_
  obtain ⟨h1, hca, V2, ne2, hY1, hf2, hP2, m1, m2⟩ := jt_25 (d := 26) (t := s) hY (by decide) hP
  refine Jcallv0 (b := 12) hY (show mx_Sn _ _ 20 (mx_callv 25 2 4 23) from sn_140 20) rfl hP.2.1 hca rfl rfl ?_
  have hY := hY1
  have h38 : V2 38 = D38 s mc := (hf2 38 rfl).trans h38
  refine mx_J.step (sn_140 23) (fun _ _ => rfl) ?_
  refine Jgetf hY (show mx_Sn _ _ 24 (mx_getf 11 6 27) from sn_140 24) rfl (kb_1 hP2.1) rfl ?_
  refine mx_J.step (sn_140 27) (fun _ _ => rfl) ?_
  refine Jgetf hY (show mx_Sn _ _ 28 (mx_getf 5 2 31) from sn_140 28) rfl h38 rfl ?_
  refine mx_J.step (sn_140 31) (fun _ _ => rfl) ?_
  obtain ⟨h1, hca, V3, hY1, hf3, hP3⟩ := jt_26_0 hY hP2 (by omega) (by omega)
  refine Jcallv (b := 12) hY (show mx_Sn _ _ 32 (mx_callv 26 3 4 35) from sn_140 32) rfl hP2.2.1 hca rfl rfl ?_
  have hY := hY1
  have h38 : V3 38 = D38 s mc := (hf3 38 rfl).trans h38
  have hf4 := (hf2.mono (l2 := [12, 14, 16, 17, 19, 38]) rfl).trans (hf3.mono rfl)
  refine mx_J.step (sn_140 35) (fun _ _ => rfl) ?_
  refine mx_J.step (sn_140 36) (fun _ _ => rfl) ?_
  refine Jif_ge_t (show mx_Sn _ _ 37 (mx_if_ge 42 40) from sn_140 37) (by decide +kernel) ?_
  refine mx_J.step (sn_140 42) (fun _ _ => rfl) ?_
  refine mx_J.step (sn_140 43) (fun _ _ => rfl) ?_
  refine Jputf hY (show mx_Sn _ _ 44 (mx_putf 1 5 2 (.int) 47) from sn_140 44) rfl rfl h38 rfl (fun h hY => ?_)
  refine mx_J.step (sn_140 47) (fun _ _ => rfl) ?_
  refine mx_J.step (sn_140 48) (fun _ _ => rfl) ?_
  refine Jgetf hY (show mx_Sn _ _ 49 (mx_getf 5 4 52) from sn_140 49) rfl rfl rfl ?_
  refine mx_J.step (sn_140 52) (fun _ _ => rfl) ?_
  refine mx_J.step (sn_140 53) (fun _ _ => rfl) ?_
  refine Jputf hY (show mx_Sn _ _ 54 (mx_putf 1 5 4 (.int) 57) from sn_140 54) rfl rfl rfl rfl (fun h hY => ?_)
  refine mx_J.step (sn_140 57) (fun _ _ => rfl) ?_
  obtain ⟨hB, h12, ⟨TB, h14, hTB⟩, ⟨TG, g, h16, hg, hq⟩, ⟨TK, k, h17, hk⟩, TT, h19, hT⟩ := hP3
  exact mx_J.ret (sn_140 58) (fun _ _ => rfl) ⟨rfl, _, ne2, mc + 1, hY, frY hY (fr.up (fr.up hf4 rfl) rfl), ⟨KB.fr hB (frY (l := [38]) hY (fr.up (fr.up fr.rfl' rfl) rfl)) rfl, h12, ⟨TB, h14, hTB⟩, ⟨TG, g, h16, hg, hq⟩, ⟨TK, k, h17, hk⟩, TT, h19, hT⟩, rfl, m1, m2⟩
set_option maxHeartbeats 300000 in
set_option maxRecDepth 100000 in
theorem dd_0 {ne : Nat} {s mc : Int32} (hY : YH 84 62986 V h) (hP : PC V ne) (h38 : V 38 = D38 s mc) (n1 : 1 ≤ ne) (n2 : ne < 63) : ∃ h2, mx_Ca (tB l D b0 ad Hb tau) 29 139 [.ref 1, .ref 38, .long 0] h (some (.int 0), h2) ∧ ∃ V2 ne2 mc2, YH 84 62986 V2 h2 ∧ fr [12, 14, 16, 17, 19, 38] V V2 ∧ PC V2 ne2 ∧ V2 38 = D38 s mc2 ∧ ne ≤ ne2 ∧ ne2 ≤ ne + 1 := by
  refine Jm (M := (prog_1_method_52_code, 5, "TitheHeap", "doDeed", (Option.some Jvm.ClassFile.FieldType.int))) rfl rfl rfl rfl rfl ?_
  show mx_J _ _ _ 0 [some (.ref 1), some (.ref 38), some (.long 0), none, none] [] h _
  refine mx_J.step (sn_139 0) (fun _ _ => rfl) ?_
  refine mx_J.step (sn_139 1) (fun _ _ => rfl) ?_
  refine Jlif_lt_f (show mx_Sn _ _ 2 (mx_lif_lt 14 6) from sn_139 2) (by decide +kernel) ?_
  refine mx_J.step (sn_139 6) (fun _ _ => rfl) ?_
  refine mx_J.step (sn_139 7) (fun _ _ => rfl) ?_
  refine Jlif_le_t (show mx_Sn _ _ 10 (mx_lif_le 16 14) from sn_139 10) (by decide +kernel) ?_
  refine mx_J.step (sn_139 16) (fun _ _ => rfl) ?_
  refine mx_J.step (sn_139 17) (fun _ _ => rfl) ?_
  refine mx_J.step (sn_139 18) (fun _ _ => rfl) ?_
  refine mx_J.step (sn_139 20) (fun _ _ => rfl) ?_
  refine mx_J.step (sn_139 22) (fun _ _ => rfl) ?_
  refine Jicmp_gt_f (show mx_Sn _ _ 24 (mx_icmp_gt 35 27) from sn_139 24) (by decide +kernel) ?_
  refine mx_J.step (sn_139 27) (fun _ _ => rfl) ?_
  refine mx_J.step (sn_139 28) (fun _ _ => rfl) ?_
  refine mx_J.step (sn_139 29) (fun _ _ => rfl) ?_
  obtain ⟨h1, hca, V2, ne2, mc2, hY1, hf2, hP2, k38, m1, m2⟩ := jt_140_0 hY hP h38 n1 n2
  refine Jcallv (b := 1) hY (show mx_Sn _ _ 31 (mx_callv 140 3 11 34) from sn_139 31) rfl (kb_1 hP.1) hca rfl rfl ?_
  have hY := hY1
  exact mx_J.ret (sn_139 34) (fun _ _ => rfl) ⟨rfl, V2, ne2, mc2, hY, hf2, hP2, k38, m1, m2⟩
set_option maxHeartbeats 300000 in
set_option maxRecDepth 100000 in
theorem jt_140_1 {ne : Nat} {s mc : Int32} (hY : YH 84 62986 V h) (hP : PC V ne) (h38 : V 38 = D38 s mc) (n1 : 1 ≤ ne) (n2 : ne < 63) : ∃ h2, mx_Ca (tB l D b0 ad Hb tau) 28 140 [.ref 1, .ref 38, .int 1] h (some (.int 0), h2) ∧ ∃ V2 ne2 mc2, YH 84 62986 V2 h2 ∧ fr [12, 14, 16, 17, 19, 38] V V2 ∧ PC V2 ne2 ∧ V2 38 = D38 s mc2 ∧ ne ≤ ne2 ∧ ne2 ≤ ne + 1 := by
  refine Jm (M := (prog_1_method_53_code, 4, "TitheHeap", "moonDeed", (Option.some Jvm.ClassFile.FieldType.int))) rfl rfl rfl rfl rfl ?_
  show mx_J _ _ _ 0 [some (.ref 1), some (.ref 38), some (.int 1), none] [] h _
  refine mx_J.step (sn_140 0) (fun _ _ => rfl) ?_
  refine Jif_lt_f (show mx_Sn _ _ 1 (mx_if_lt 10 4) from sn_140 1) (by decide +kernel) ?_
  refine mx_J.step (sn_140 4) (fun _ _ => rfl) ?_
  refine mx_J.step (sn_140 5) (fun _ _ => rfl) ?_
  refine Jicmp_le_t (show mx_Sn _ _ 7 (mx_icmp_le 12 10) from sn_140 7) (by decide +kernel) ?_
  refine mx_J.step (sn_140 12) (fun _ _ => rfl) ?_
  refine Jgetf hY (show mx_Sn _ _ 13 (mx_getf 11 6 16) from sn_140 13) rfl (kb_1 hP.1) rfl ?_
  refine mx_J.step (sn_140 16) (fun _ _ => rfl) ?_
  refine Jgetf hY (show mx_Sn _ _ 17 (mx_getf 5 3 20) from sn_140 17) rfl h38 rfl ?_
  obtain ⟨h1, hca, V2, ne2, hY1, hf2, hP2, m1, m2⟩ := jt_25 (d := 26) (t := s) hY (by decide) hP
  refine Jcallv0 (b := 12) hY (show mx_Sn _ _ 20 (mx_callv 25 2 4 23) from sn_140 20) rfl hP.2.1 hca rfl rfl ?_
  have hY := hY1
  have h38 : V2 38 = D38 s mc := (hf2 38 rfl).trans h38
  refine mx_J.step (sn_140 23) (fun _ _ => rfl) ?_
  refine Jgetf hY (show mx_Sn _ _ 24 (mx_getf 11 6 27) from sn_140 24) rfl (kb_1 hP2.1) rfl ?_
  refine mx_J.step (sn_140 27) (fun _ _ => rfl) ?_
  refine Jgetf hY (show mx_Sn _ _ 28 (mx_getf 5 2 31) from sn_140 28) rfl h38 rfl ?_
  refine mx_J.step (sn_140 31) (fun _ _ => rfl) ?_
  obtain ⟨h1, hca, V3, hY1, hf3, hP3⟩ := jt_26_1 hY hP2 (by omega) (by omega)
  refine Jcallv (b := 12) hY (show mx_Sn _ _ 32 (mx_callv 26 3 4 35) from sn_140 32) rfl hP2.2.1 hca rfl rfl ?_
  have hY := hY1
  have h38 : V3 38 = D38 s mc := (hf3 38 rfl).trans h38
  have hf4 := (hf2.mono (l2 := [12, 14, 16, 17, 19, 38]) rfl).trans (hf3.mono rfl)
  refine mx_J.step (sn_140 35) (fun _ _ => rfl) ?_
  refine mx_J.step (sn_140 36) (fun _ _ => rfl) ?_
  refine Jif_ge_t (show mx_Sn _ _ 37 (mx_if_ge 42 40) from sn_140 37) (by decide +kernel) ?_
  refine mx_J.step (sn_140 42) (fun _ _ => rfl) ?_
  refine mx_J.step (sn_140 43) (fun _ _ => rfl) ?_
  refine Jputf hY (show mx_Sn _ _ 44 (mx_putf 1 5 2 (.int) 47) from sn_140 44) rfl rfl h38 rfl (fun h hY => ?_)
  refine mx_J.step (sn_140 47) (fun _ _ => rfl) ?_
  refine mx_J.step (sn_140 48) (fun _ _ => rfl) ?_
  refine Jgetf hY (show mx_Sn _ _ 49 (mx_getf 5 4 52) from sn_140 49) rfl rfl rfl ?_
  refine mx_J.step (sn_140 52) (fun _ _ => rfl) ?_
  refine mx_J.step (sn_140 53) (fun _ _ => rfl) ?_
  refine Jputf hY (show mx_Sn _ _ 54 (mx_putf 1 5 4 (.int) 57) from sn_140 54) rfl rfl rfl rfl (fun h hY => ?_)
  refine mx_J.step (sn_140 57) (fun _ _ => rfl) ?_
  obtain ⟨hB, h12, ⟨TB, h14, hTB⟩, ⟨TG, g, h16, hg, hq⟩, ⟨TK, k, h17, hk⟩, TT, h19, hT⟩ := hP3
  exact mx_J.ret (sn_140 58) (fun _ _ => rfl) ⟨rfl, _, ne2, mc + 1, hY, frY hY (fr.up (fr.up hf4 rfl) rfl), ⟨KB.fr hB (frY (l := [38]) hY (fr.up (fr.up fr.rfl' rfl) rfl)) rfl, h12, ⟨TB, h14, hTB⟩, ⟨TG, g, h16, hg, hq⟩, ⟨TK, k, h17, hk⟩, TT, h19, hT⟩, rfl, m1, m2⟩
set_option maxHeartbeats 300000 in
set_option maxRecDepth 100000 in
theorem dd_1 {ne : Nat} {s mc : Int32} (hY : YH 84 62986 V h) (hP : PC V ne) (h38 : V 38 = D38 s mc) (n1 : 1 ≤ ne) (n2 : ne < 63) : ∃ h2, mx_Ca (tB l D b0 ad Hb tau) 29 139 [.ref 1, .ref 38, .long 1] h (some (.int 0), h2) ∧ ∃ V2 ne2 mc2, YH 84 62986 V2 h2 ∧ fr [12, 14, 16, 17, 19, 38] V V2 ∧ PC V2 ne2 ∧ V2 38 = D38 s mc2 ∧ ne ≤ ne2 ∧ ne2 ≤ ne + 1 := by
  refine Jm (M := (prog_1_method_52_code, 5, "TitheHeap", "doDeed", (Option.some Jvm.ClassFile.FieldType.int))) rfl rfl rfl rfl rfl ?_
  show mx_J _ _ _ 0 [some (.ref 1), some (.ref 38), some (.long 1), none, none] [] h _
  refine mx_J.step (sn_139 0) (fun _ _ => rfl) ?_
  refine mx_J.step (sn_139 1) (fun _ _ => rfl) ?_
  refine Jlif_lt_f (show mx_Sn _ _ 2 (mx_lif_lt 14 6) from sn_139 2) (by decide +kernel) ?_
  refine mx_J.step (sn_139 6) (fun _ _ => rfl) ?_
  refine mx_J.step (sn_139 7) (fun _ _ => rfl) ?_
  refine Jlif_le_t (show mx_Sn _ _ 10 (mx_lif_le 16 14) from sn_139 10) (by decide +kernel) ?_
  refine mx_J.step (sn_139 16) (fun _ _ => rfl) ?_
  refine mx_J.step (sn_139 17) (fun _ _ => rfl) ?_
  refine mx_J.step (sn_139 18) (fun _ _ => rfl) ?_
  refine mx_J.step (sn_139 20) (fun _ _ => rfl) ?_
  refine mx_J.step (sn_139 22) (fun _ _ => rfl) ?_
  refine Jicmp_gt_f (show mx_Sn _ _ 24 (mx_icmp_gt 35 27) from sn_139 24) (by decide +kernel) ?_
  refine mx_J.step (sn_139 27) (fun _ _ => rfl) ?_
  refine mx_J.step (sn_139 28) (fun _ _ => rfl) ?_
  refine mx_J.step (sn_139 29) (fun _ _ => rfl) ?_
  obtain ⟨h1, hca, V2, ne2, mc2, hY1, hf2, hP2, k38, m1, m2⟩ := jt_140_1 hY hP h38 n1 n2
  refine Jcallv (b := 1) hY (show mx_Sn _ _ 31 (mx_callv 140 3 11 34) from sn_139 31) rfl (kb_1 hP.1) hca rfl rfl ?_
  have hY := hY1
  exact mx_J.ret (sn_139 34) (fun _ _ => rfl) ⟨rfl, V2, ne2, mc2, hY, hf2, hP2, k38, m1, m2⟩
set_option maxHeartbeats 300000 in
set_option maxRecDepth 100000 in
theorem jt_140_2 {ne : Nat} {s mc : Int32} (hY : YH 84 62986 V h) (hP : PC V ne) (h38 : V 38 = D38 s mc) (n1 : 1 ≤ ne) (n2 : ne < 63) : ∃ h2, mx_Ca (tB l D b0 ad Hb tau) 28 140 [.ref 1, .ref 38, .int 2] h (some (.int 2), h2) ∧ ∃ V2 ne2 mc2, YH 84 62986 V2 h2 ∧ fr [12, 14, 16, 17, 19, 38] V V2 ∧ PC V2 ne2 ∧ V2 38 = D38 s mc2 ∧ ne ≤ ne2 ∧ ne2 ≤ ne + 1 := by
  refine Jm (M := (prog_1_method_53_code, 4, "TitheHeap", "moonDeed", (Option.some Jvm.ClassFile.FieldType.int))) rfl rfl rfl rfl rfl ?_
  show mx_J _ _ _ 0 [some (.ref 1), some (.ref 38), some (.int 2), none] [] h _
  refine mx_J.step (sn_140 0) (fun _ _ => rfl) ?_
  refine Jif_lt_f (show mx_Sn _ _ 1 (mx_if_lt 10 4) from sn_140 1) (by decide +kernel) ?_
  refine mx_J.step (sn_140 4) (fun _ _ => rfl) ?_
  refine mx_J.step (sn_140 5) (fun _ _ => rfl) ?_
  refine Jicmp_le_t (show mx_Sn _ _ 7 (mx_icmp_le 12 10) from sn_140 7) (by decide +kernel) ?_
  refine mx_J.step (sn_140 12) (fun _ _ => rfl) ?_
  refine Jgetf hY (show mx_Sn _ _ 13 (mx_getf 11 6 16) from sn_140 13) rfl (kb_1 hP.1) rfl ?_
  refine mx_J.step (sn_140 16) (fun _ _ => rfl) ?_
  refine Jgetf hY (show mx_Sn _ _ 17 (mx_getf 5 3 20) from sn_140 17) rfl h38 rfl ?_
  obtain ⟨h1, hca, V2, ne2, hY1, hf2, hP2, m1, m2⟩ := jt_25 (d := 26) (t := s) hY (by decide) hP
  refine Jcallv0 (b := 12) hY (show mx_Sn _ _ 20 (mx_callv 25 2 4 23) from sn_140 20) rfl hP.2.1 hca rfl rfl ?_
  have hY := hY1
  have h38 : V2 38 = D38 s mc := (hf2 38 rfl).trans h38
  refine mx_J.step (sn_140 23) (fun _ _ => rfl) ?_
  refine Jgetf hY (show mx_Sn _ _ 24 (mx_getf 11 6 27) from sn_140 24) rfl (kb_1 hP2.1) rfl ?_
  refine mx_J.step (sn_140 27) (fun _ _ => rfl) ?_
  refine Jgetf hY (show mx_Sn _ _ 28 (mx_getf 5 2 31) from sn_140 28) rfl h38 rfl ?_
  refine mx_J.step (sn_140 31) (fun _ _ => rfl) ?_
  obtain ⟨h1, hca, V3, hY1, hf3, hP3⟩ := jt_26_2 hY hP2 (by omega) (by omega)
  refine Jcallv (b := 12) hY (show mx_Sn _ _ 32 (mx_callv 26 3 4 35) from sn_140 32) rfl hP2.2.1 hca rfl rfl ?_
  have hY := hY1
  have h38 : V3 38 = D38 s mc := (hf3 38 rfl).trans h38
  have hf4 := (hf2.mono (l2 := [12, 14, 16, 17, 19, 38]) rfl).trans (hf3.mono rfl)
  refine mx_J.step (sn_140 35) (fun _ _ => rfl) ?_
  refine mx_J.step (sn_140 36) (fun _ _ => rfl) ?_
  refine Jif_ge_f (show mx_Sn _ _ 37 (mx_if_ge 42 40) from sn_140 37) (by decide +kernel) ?_
  refine mx_J.step (sn_140 40) (fun _ _ => rfl) ?_
  exact mx_J.ret (sn_140 41) (fun _ _ => rfl) ⟨rfl, V3, ne2, mc, hY, hf4, hP3, h38, m1, m2⟩
set_option maxHeartbeats 300000 in
set_option maxRecDepth 100000 in
theorem dd_2 {ne : Nat} {s mc : Int32} (hY : YH 84 62986 V h) (hP : PC V ne) (h38 : V 38 = D38 s mc) (n1 : 1 ≤ ne) (n2 : ne < 63) : ∃ h2, mx_Ca (tB l D b0 ad Hb tau) 29 139 [.ref 1, .ref 38, .long 2] h (some (.int 2), h2) ∧ ∃ V2 ne2 mc2, YH 84 62986 V2 h2 ∧ fr [12, 14, 16, 17, 19, 38] V V2 ∧ PC V2 ne2 ∧ V2 38 = D38 s mc2 ∧ ne ≤ ne2 ∧ ne2 ≤ ne + 1 := by
  refine Jm (M := (prog_1_method_52_code, 5, "TitheHeap", "doDeed", (Option.some Jvm.ClassFile.FieldType.int))) rfl rfl rfl rfl rfl ?_
  show mx_J _ _ _ 0 [some (.ref 1), some (.ref 38), some (.long 2), none, none] [] h _
  refine mx_J.step (sn_139 0) (fun _ _ => rfl) ?_
  refine mx_J.step (sn_139 1) (fun _ _ => rfl) ?_
  refine Jlif_lt_f (show mx_Sn _ _ 2 (mx_lif_lt 14 6) from sn_139 2) (by decide +kernel) ?_
  refine mx_J.step (sn_139 6) (fun _ _ => rfl) ?_
  refine mx_J.step (sn_139 7) (fun _ _ => rfl) ?_
  refine Jlif_le_t (show mx_Sn _ _ 10 (mx_lif_le 16 14) from sn_139 10) (by decide +kernel) ?_
  refine mx_J.step (sn_139 16) (fun _ _ => rfl) ?_
  refine mx_J.step (sn_139 17) (fun _ _ => rfl) ?_
  refine mx_J.step (sn_139 18) (fun _ _ => rfl) ?_
  refine mx_J.step (sn_139 20) (fun _ _ => rfl) ?_
  refine mx_J.step (sn_139 22) (fun _ _ => rfl) ?_
  refine Jicmp_gt_f (show mx_Sn _ _ 24 (mx_icmp_gt 35 27) from sn_139 24) (by decide +kernel) ?_
  refine mx_J.step (sn_139 27) (fun _ _ => rfl) ?_
  refine mx_J.step (sn_139 28) (fun _ _ => rfl) ?_
  refine mx_J.step (sn_139 29) (fun _ _ => rfl) ?_
  obtain ⟨h1, hca, V2, ne2, mc2, hY1, hf2, hP2, k38, m1, m2⟩ := jt_140_2 hY hP h38 n1 n2
  refine Jcallv (b := 1) hY (show mx_Sn _ _ 31 (mx_callv 140 3 11 34) from sn_139 31) rfl (kb_1 hP.1) hca rfl rfl ?_
  have hY := hY1
  exact mx_J.ret (sn_139 34) (fun _ _ => rfl) ⟨rfl, V2, ne2, mc2, hY, hf2, hP2, k38, m1, m2⟩
set_option maxHeartbeats 300000 in
set_option maxRecDepth 100000 in
theorem jt_140_3 {ne : Nat} {s mc : Int32} (hY : YH 84 62986 V h) (hP : PC V ne) (h38 : V 38 = D38 s mc) (n1 : 1 ≤ ne) (n2 : ne < 63) : ∃ h2, mx_Ca (tB l D b0 ad Hb tau) 28 140 [.ref 1, .ref 38, .int 3] h (some (.int 2), h2) ∧ ∃ V2 ne2 mc2, YH 84 62986 V2 h2 ∧ fr [12, 14, 16, 17, 19, 38] V V2 ∧ PC V2 ne2 ∧ V2 38 = D38 s mc2 ∧ ne ≤ ne2 ∧ ne2 ≤ ne + 1 := by
  refine Jm (M := (prog_1_method_53_code, 4, "TitheHeap", "moonDeed", (Option.some Jvm.ClassFile.FieldType.int))) rfl rfl rfl rfl rfl ?_
  show mx_J _ _ _ 0 [some (.ref 1), some (.ref 38), some (.int 3), none] [] h _
  refine mx_J.step (sn_140 0) (fun _ _ => rfl) ?_
  refine Jif_lt_f (show mx_Sn _ _ 1 (mx_if_lt 10 4) from sn_140 1) (by decide +kernel) ?_
  refine mx_J.step (sn_140 4) (fun _ _ => rfl) ?_
  refine mx_J.step (sn_140 5) (fun _ _ => rfl) ?_
  refine Jicmp_le_t (show mx_Sn _ _ 7 (mx_icmp_le 12 10) from sn_140 7) (by decide +kernel) ?_
  refine mx_J.step (sn_140 12) (fun _ _ => rfl) ?_
  refine Jgetf hY (show mx_Sn _ _ 13 (mx_getf 11 6 16) from sn_140 13) rfl (kb_1 hP.1) rfl ?_
  refine mx_J.step (sn_140 16) (fun _ _ => rfl) ?_
  refine Jgetf hY (show mx_Sn _ _ 17 (mx_getf 5 3 20) from sn_140 17) rfl h38 rfl ?_
  obtain ⟨h1, hca, V2, ne2, hY1, hf2, hP2, m1, m2⟩ := jt_25 (d := 26) (t := s) hY (by decide) hP
  refine Jcallv0 (b := 12) hY (show mx_Sn _ _ 20 (mx_callv 25 2 4 23) from sn_140 20) rfl hP.2.1 hca rfl rfl ?_
  have hY := hY1
  have h38 : V2 38 = D38 s mc := (hf2 38 rfl).trans h38
  refine mx_J.step (sn_140 23) (fun _ _ => rfl) ?_
  refine Jgetf hY (show mx_Sn _ _ 24 (mx_getf 11 6 27) from sn_140 24) rfl (kb_1 hP2.1) rfl ?_
  refine mx_J.step (sn_140 27) (fun _ _ => rfl) ?_
  refine Jgetf hY (show mx_Sn _ _ 28 (mx_getf 5 2 31) from sn_140 28) rfl h38 rfl ?_
  refine mx_J.step (sn_140 31) (fun _ _ => rfl) ?_
  obtain ⟨h1, hca, V3, hY1, hf3, hP3⟩ := jt_26_3 hY hP2 (by omega) (by omega)
  refine Jcallv (b := 12) hY (show mx_Sn _ _ 32 (mx_callv 26 3 4 35) from sn_140 32) rfl hP2.2.1 hca rfl rfl ?_
  have hY := hY1
  have h38 : V3 38 = D38 s mc := (hf3 38 rfl).trans h38
  have hf4 := (hf2.mono (l2 := [12, 14, 16, 17, 19, 38]) rfl).trans (hf3.mono rfl)
  refine mx_J.step (sn_140 35) (fun _ _ => rfl) ?_
  refine mx_J.step (sn_140 36) (fun _ _ => rfl) ?_
  refine Jif_ge_f (show mx_Sn _ _ 37 (mx_if_ge 42 40) from sn_140 37) (by decide +kernel) ?_
  refine mx_J.step (sn_140 40) (fun _ _ => rfl) ?_
  exact mx_J.ret (sn_140 41) (fun _ _ => rfl) ⟨rfl, V3, ne2, mc, hY, hf4, hP3, h38, m1, m2⟩
set_option maxHeartbeats 300000 in
set_option maxRecDepth 100000 in
theorem dd_3 {ne : Nat} {s mc : Int32} (hY : YH 84 62986 V h) (hP : PC V ne) (h38 : V 38 = D38 s mc) (n1 : 1 ≤ ne) (n2 : ne < 63) : ∃ h2, mx_Ca (tB l D b0 ad Hb tau) 29 139 [.ref 1, .ref 38, .long 3] h (some (.int 2), h2) ∧ ∃ V2 ne2 mc2, YH 84 62986 V2 h2 ∧ fr [12, 14, 16, 17, 19, 38] V V2 ∧ PC V2 ne2 ∧ V2 38 = D38 s mc2 ∧ ne ≤ ne2 ∧ ne2 ≤ ne + 1 := by
  refine Jm (M := (prog_1_method_52_code, 5, "TitheHeap", "doDeed", (Option.some Jvm.ClassFile.FieldType.int))) rfl rfl rfl rfl rfl ?_
  show mx_J _ _ _ 0 [some (.ref 1), some (.ref 38), some (.long 3), none, none] [] h _
  refine mx_J.step (sn_139 0) (fun _ _ => rfl) ?_
  refine mx_J.step (sn_139 1) (fun _ _ => rfl) ?_
  refine Jlif_lt_f (show mx_Sn _ _ 2 (mx_lif_lt 14 6) from sn_139 2) (by decide +kernel) ?_
  refine mx_J.step (sn_139 6) (fun _ _ => rfl) ?_
  refine mx_J.step (sn_139 7) (fun _ _ => rfl) ?_
  refine Jlif_le_t (show mx_Sn _ _ 10 (mx_lif_le 16 14) from sn_139 10) (by decide +kernel) ?_
  refine mx_J.step (sn_139 16) (fun _ _ => rfl) ?_
  refine mx_J.step (sn_139 17) (fun _ _ => rfl) ?_
  refine mx_J.step (sn_139 18) (fun _ _ => rfl) ?_
  refine mx_J.step (sn_139 20) (fun _ _ => rfl) ?_
  refine mx_J.step (sn_139 22) (fun _ _ => rfl) ?_
  refine Jicmp_gt_f (show mx_Sn _ _ 24 (mx_icmp_gt 35 27) from sn_139 24) (by decide +kernel) ?_
  refine mx_J.step (sn_139 27) (fun _ _ => rfl) ?_
  refine mx_J.step (sn_139 28) (fun _ _ => rfl) ?_
  refine mx_J.step (sn_139 29) (fun _ _ => rfl) ?_
  obtain ⟨h1, hca, V2, ne2, mc2, hY1, hf2, hP2, k38, m1, m2⟩ := jt_140_3 hY hP h38 n1 n2
  refine Jcallv (b := 1) hY (show mx_Sn _ _ 31 (mx_callv 140 3 11 34) from sn_139 31) rfl (kb_1 hP.1) hca rfl rfl ?_
  have hY := hY1
  exact mx_J.ret (sn_139 34) (fun _ _ => rfl) ⟨rfl, V2, ne2, mc2, hY, hf2, hP2, k38, m1, m2⟩
set_option maxHeartbeats 300000 in
set_option maxRecDepth 100000 in
theorem jt_140_4 {ne : Nat} {s mc : Int32} (hY : YH 84 62986 V h) (hP : PC V ne) (h38 : V 38 = D38 s mc) (n1 : 1 ≤ ne) (n2 : ne < 63) : ∃ h2, mx_Ca (tB l D b0 ad Hb tau) 28 140 [.ref 1, .ref 38, .int 4] h (some (.int 2), h2) ∧ ∃ V2 ne2 mc2, YH 84 62986 V2 h2 ∧ fr [12, 14, 16, 17, 19, 38] V V2 ∧ PC V2 ne2 ∧ V2 38 = D38 s mc2 ∧ ne ≤ ne2 ∧ ne2 ≤ ne + 1 := by
  refine Jm (M := (prog_1_method_53_code, 4, "TitheHeap", "moonDeed", (Option.some Jvm.ClassFile.FieldType.int))) rfl rfl rfl rfl rfl ?_
  show mx_J _ _ _ 0 [some (.ref 1), some (.ref 38), some (.int 4), none] [] h _
  refine mx_J.step (sn_140 0) (fun _ _ => rfl) ?_
  refine Jif_lt_f (show mx_Sn _ _ 1 (mx_if_lt 10 4) from sn_140 1) (by decide +kernel) ?_
  refine mx_J.step (sn_140 4) (fun _ _ => rfl) ?_
  refine mx_J.step (sn_140 5) (fun _ _ => rfl) ?_
  refine Jicmp_le_t (show mx_Sn _ _ 7 (mx_icmp_le 12 10) from sn_140 7) (by decide +kernel) ?_
  refine mx_J.step (sn_140 12) (fun _ _ => rfl) ?_
  refine Jgetf hY (show mx_Sn _ _ 13 (mx_getf 11 6 16) from sn_140 13) rfl (kb_1 hP.1) rfl ?_
  refine mx_J.step (sn_140 16) (fun _ _ => rfl) ?_
  refine Jgetf hY (show mx_Sn _ _ 17 (mx_getf 5 3 20) from sn_140 17) rfl h38 rfl ?_
  obtain ⟨h1, hca, V2, ne2, hY1, hf2, hP2, m1, m2⟩ := jt_25 (d := 26) (t := s) hY (by decide) hP
  refine Jcallv0 (b := 12) hY (show mx_Sn _ _ 20 (mx_callv 25 2 4 23) from sn_140 20) rfl hP.2.1 hca rfl rfl ?_
  have hY := hY1
  have h38 : V2 38 = D38 s mc := (hf2 38 rfl).trans h38
  refine mx_J.step (sn_140 23) (fun _ _ => rfl) ?_
  refine Jgetf hY (show mx_Sn _ _ 24 (mx_getf 11 6 27) from sn_140 24) rfl (kb_1 hP2.1) rfl ?_
  refine mx_J.step (sn_140 27) (fun _ _ => rfl) ?_
  refine Jgetf hY (show mx_Sn _ _ 28 (mx_getf 5 2 31) from sn_140 28) rfl h38 rfl ?_
  refine mx_J.step (sn_140 31) (fun _ _ => rfl) ?_
  obtain ⟨h1, hca, V3, hY1, hf3, hP3⟩ := jt_26_4 hY hP2 (by omega) (by omega)
  refine Jcallv (b := 12) hY (show mx_Sn _ _ 32 (mx_callv 26 3 4 35) from sn_140 32) rfl hP2.2.1 hca rfl rfl ?_
  have hY := hY1
  have h38 : V3 38 = D38 s mc := (hf3 38 rfl).trans h38
  have hf4 := (hf2.mono (l2 := [12, 14, 16, 17, 19, 38]) rfl).trans (hf3.mono rfl)
  refine mx_J.step (sn_140 35) (fun _ _ => rfl) ?_
  refine mx_J.step (sn_140 36) (fun _ _ => rfl) ?_
  refine Jif_ge_f (show mx_Sn _ _ 37 (mx_if_ge 42 40) from sn_140 37) (by decide +kernel) ?_
  refine mx_J.step (sn_140 40) (fun _ _ => rfl) ?_
  exact mx_J.ret (sn_140 41) (fun _ _ => rfl) ⟨rfl, V3, ne2, mc, hY, hf4, hP3, h38, m1, m2⟩
set_option maxHeartbeats 300000 in
set_option maxRecDepth 100000 in
theorem dd_4 {ne : Nat} {s mc : Int32} (hY : YH 84 62986 V h) (hP : PC V ne) (h38 : V 38 = D38 s mc) (n1 : 1 ≤ ne) (n2 : ne < 63) : ∃ h2, mx_Ca (tB l D b0 ad Hb tau) 29 139 [.ref 1, .ref 38, .long 4] h (some (.int 2), h2) ∧ ∃ V2 ne2 mc2, YH 84 62986 V2 h2 ∧ fr [12, 14, 16, 17, 19, 38] V V2 ∧ PC V2 ne2 ∧ V2 38 = D38 s mc2 ∧ ne ≤ ne2 ∧ ne2 ≤ ne + 1 := by
  refine Jm (M := (prog_1_method_52_code, 5, "TitheHeap", "doDeed", (Option.some Jvm.ClassFile.FieldType.int))) rfl rfl rfl rfl rfl ?_
  show mx_J _ _ _ 0 [some (.ref 1), some (.ref 38), some (.long 4), none, none] [] h _
  refine mx_J.step (sn_139 0) (fun _ _ => rfl) ?_
  refine mx_J.step (sn_139 1) (fun _ _ => rfl) ?_
  refine Jlif_lt_f (show mx_Sn _ _ 2 (mx_lif_lt 14 6) from sn_139 2) (by decide +kernel) ?_
  refine mx_J.step (sn_139 6) (fun _ _ => rfl) ?_
  refine mx_J.step (sn_139 7) (fun _ _ => rfl) ?_
  refine Jlif_le_t (show mx_Sn _ _ 10 (mx_lif_le 16 14) from sn_139 10) (by decide +kernel) ?_
  refine mx_J.step (sn_139 16) (fun _ _ => rfl) ?_
  refine mx_J.step (sn_139 17) (fun _ _ => rfl) ?_
  refine mx_J.step (sn_139 18) (fun _ _ => rfl) ?_
  refine mx_J.step (sn_139 20) (fun _ _ => rfl) ?_
  refine mx_J.step (sn_139 22) (fun _ _ => rfl) ?_
  refine Jicmp_gt_f (show mx_Sn _ _ 24 (mx_icmp_gt 35 27) from sn_139 24) (by decide +kernel) ?_
  refine mx_J.step (sn_139 27) (fun _ _ => rfl) ?_
  refine mx_J.step (sn_139 28) (fun _ _ => rfl) ?_
  refine mx_J.step (sn_139 29) (fun _ _ => rfl) ?_
  obtain ⟨h1, hca, V2, ne2, mc2, hY1, hf2, hP2, k38, m1, m2⟩ := jt_140_4 hY hP h38 n1 n2
  refine Jcallv (b := 1) hY (show mx_Sn _ _ 31 (mx_callv 140 3 11 34) from sn_139 31) rfl (kb_1 hP.1) hca rfl rfl ?_
  have hY := hY1
  exact mx_J.ret (sn_139 34) (fun _ _ => rfl) ⟨rfl, V2, ne2, mc2, hY, hf2, hP2, k38, m1, m2⟩
set_option maxHeartbeats 300000 in
set_option maxRecDepth 100000 in
theorem jt_140_5 {ne : Nat} {s mc : Int32} (hY : YH 84 62986 V h) (hP : PC V ne) (h38 : V 38 = D38 s mc) (n1 : 1 ≤ ne) (n2 : ne < 63) : ∃ h2, mx_Ca (tB l D b0 ad Hb tau) 28 140 [.ref 1, .ref 38, .int 5] h (some (.int 2), h2) ∧ ∃ V2 ne2 mc2, YH 84 62986 V2 h2 ∧ fr [12, 14, 16, 17, 19, 38] V V2 ∧ PC V2 ne2 ∧ V2 38 = D38 s mc2 ∧ ne ≤ ne2 ∧ ne2 ≤ ne + 1 := by
  refine Jm (M := (prog_1_method_53_code, 4, "TitheHeap", "moonDeed", (Option.some Jvm.ClassFile.FieldType.int))) rfl rfl rfl rfl rfl ?_
  show mx_J _ _ _ 0 [some (.ref 1), some (.ref 38), some (.int 5), none] [] h _
  refine mx_J.step (sn_140 0) (fun _ _ => rfl) ?_
  refine Jif_lt_f (show mx_Sn _ _ 1 (mx_if_lt 10 4) from sn_140 1) (by decide +kernel) ?_
  refine mx_J.step (sn_140 4) (fun _ _ => rfl) ?_
  refine mx_J.step (sn_140 5) (fun _ _ => rfl) ?_
  refine Jicmp_le_t (show mx_Sn _ _ 7 (mx_icmp_le 12 10) from sn_140 7) (by decide +kernel) ?_
  refine mx_J.step (sn_140 12) (fun _ _ => rfl) ?_
  refine Jgetf hY (show mx_Sn _ _ 13 (mx_getf 11 6 16) from sn_140 13) rfl (kb_1 hP.1) rfl ?_
  refine mx_J.step (sn_140 16) (fun _ _ => rfl) ?_
  refine Jgetf hY (show mx_Sn _ _ 17 (mx_getf 5 3 20) from sn_140 17) rfl h38 rfl ?_
  obtain ⟨h1, hca, V2, ne2, hY1, hf2, hP2, m1, m2⟩ := jt_25 (d := 26) (t := s) hY (by decide) hP
  refine Jcallv0 (b := 12) hY (show mx_Sn _ _ 20 (mx_callv 25 2 4 23) from sn_140 20) rfl hP.2.1 hca rfl rfl ?_
  have hY := hY1
  have h38 : V2 38 = D38 s mc := (hf2 38 rfl).trans h38
  refine mx_J.step (sn_140 23) (fun _ _ => rfl) ?_
  refine Jgetf hY (show mx_Sn _ _ 24 (mx_getf 11 6 27) from sn_140 24) rfl (kb_1 hP2.1) rfl ?_
  refine mx_J.step (sn_140 27) (fun _ _ => rfl) ?_
  refine Jgetf hY (show mx_Sn _ _ 28 (mx_getf 5 2 31) from sn_140 28) rfl h38 rfl ?_
  refine mx_J.step (sn_140 31) (fun _ _ => rfl) ?_
  obtain ⟨h1, hca, V3, hY1, hf3, hP3⟩ := jt_26_5 hY hP2 (by omega) (by omega)
  refine Jcallv (b := 12) hY (show mx_Sn _ _ 32 (mx_callv 26 3 4 35) from sn_140 32) rfl hP2.2.1 hca rfl rfl ?_
  have hY := hY1
  have h38 : V3 38 = D38 s mc := (hf3 38 rfl).trans h38
  have hf4 := (hf2.mono (l2 := [12, 14, 16, 17, 19, 38]) rfl).trans (hf3.mono rfl)
  refine mx_J.step (sn_140 35) (fun _ _ => rfl) ?_
  refine mx_J.step (sn_140 36) (fun _ _ => rfl) ?_
  refine Jif_ge_f (show mx_Sn _ _ 37 (mx_if_ge 42 40) from sn_140 37) (by decide +kernel) ?_
  refine mx_J.step (sn_140 40) (fun _ _ => rfl) ?_
  exact mx_J.ret (sn_140 41) (fun _ _ => rfl) ⟨rfl, V3, ne2, mc, hY, hf4, hP3, h38, m1, m2⟩
set_option maxHeartbeats 300000 in
set_option maxRecDepth 100000 in
theorem dd_5 {ne : Nat} {s mc : Int32} (hY : YH 84 62986 V h) (hP : PC V ne) (h38 : V 38 = D38 s mc) (n1 : 1 ≤ ne) (n2 : ne < 63) : ∃ h2, mx_Ca (tB l D b0 ad Hb tau) 29 139 [.ref 1, .ref 38, .long 5] h (some (.int 2), h2) ∧ ∃ V2 ne2 mc2, YH 84 62986 V2 h2 ∧ fr [12, 14, 16, 17, 19, 38] V V2 ∧ PC V2 ne2 ∧ V2 38 = D38 s mc2 ∧ ne ≤ ne2 ∧ ne2 ≤ ne + 1 := by
  refine Jm (M := (prog_1_method_52_code, 5, "TitheHeap", "doDeed", (Option.some Jvm.ClassFile.FieldType.int))) rfl rfl rfl rfl rfl ?_
  show mx_J _ _ _ 0 [some (.ref 1), some (.ref 38), some (.long 5), none, none] [] h _
  refine mx_J.step (sn_139 0) (fun _ _ => rfl) ?_
  refine mx_J.step (sn_139 1) (fun _ _ => rfl) ?_
  refine Jlif_lt_f (show mx_Sn _ _ 2 (mx_lif_lt 14 6) from sn_139 2) (by decide +kernel) ?_
  refine mx_J.step (sn_139 6) (fun _ _ => rfl) ?_
  refine mx_J.step (sn_139 7) (fun _ _ => rfl) ?_
  refine Jlif_le_t (show mx_Sn _ _ 10 (mx_lif_le 16 14) from sn_139 10) (by decide +kernel) ?_
  refine mx_J.step (sn_139 16) (fun _ _ => rfl) ?_
  refine mx_J.step (sn_139 17) (fun _ _ => rfl) ?_
  refine mx_J.step (sn_139 18) (fun _ _ => rfl) ?_
  refine mx_J.step (sn_139 20) (fun _ _ => rfl) ?_
  refine mx_J.step (sn_139 22) (fun _ _ => rfl) ?_
  refine Jicmp_gt_f (show mx_Sn _ _ 24 (mx_icmp_gt 35 27) from sn_139 24) (by decide +kernel) ?_
  refine mx_J.step (sn_139 27) (fun _ _ => rfl) ?_
  refine mx_J.step (sn_139 28) (fun _ _ => rfl) ?_
  refine mx_J.step (sn_139 29) (fun _ _ => rfl) ?_
  obtain ⟨h1, hca, V2, ne2, mc2, hY1, hf2, hP2, k38, m1, m2⟩ := jt_140_5 hY hP h38 n1 n2
  refine Jcallv (b := 1) hY (show mx_Sn _ _ 31 (mx_callv 140 3 11 34) from sn_139 31) rfl (kb_1 hP.1) hca rfl rfl ?_
  have hY := hY1
  exact mx_J.ret (sn_139 34) (fun _ _ => rfl) ⟨rfl, V2, ne2, mc2, hY, hf2, hP2, k38, m1, m2⟩
set_option maxHeartbeats 300000 in
set_option maxRecDepth 100000 in
theorem jt_140_6 {ne : Nat} {s mc : Int32} (hY : YH 84 62986 V h) (hP : PC V ne) (h38 : V 38 = D38 s mc) (n1 : 1 ≤ ne) (n2 : ne < 63) : ∃ h2, mx_Ca (tB l D b0 ad Hb tau) 28 140 [.ref 1, .ref 38, .int 6] h (some (.int 2), h2) ∧ ∃ V2 ne2 mc2, YH 84 62986 V2 h2 ∧ fr [12, 14, 16, 17, 19, 38] V V2 ∧ PC V2 ne2 ∧ V2 38 = D38 s mc2 ∧ ne ≤ ne2 ∧ ne2 ≤ ne + 1 := by
  refine Jm (M := (prog_1_method_53_code, 4, "TitheHeap", "moonDeed", (Option.some Jvm.ClassFile.FieldType.int))) rfl rfl rfl rfl rfl ?_
  show mx_J _ _ _ 0 [some (.ref 1), some (.ref 38), some (.int 6), none] [] h _
  refine mx_J.step (sn_140 0) (fun _ _ => rfl) ?_
  refine Jif_lt_f (show mx_Sn _ _ 1 (mx_if_lt 10 4) from sn_140 1) (by decide +kernel) ?_
  refine mx_J.step (sn_140 4) (fun _ _ => rfl) ?_
  refine mx_J.step (sn_140 5) (fun _ _ => rfl) ?_
  refine Jicmp_le_t (show mx_Sn _ _ 7 (mx_icmp_le 12 10) from sn_140 7) (by decide +kernel) ?_
  refine mx_J.step (sn_140 12) (fun _ _ => rfl) ?_
  refine Jgetf hY (show mx_Sn _ _ 13 (mx_getf 11 6 16) from sn_140 13) rfl (kb_1 hP.1) rfl ?_
  refine mx_J.step (sn_140 16) (fun _ _ => rfl) ?_
  refine Jgetf hY (show mx_Sn _ _ 17 (mx_getf 5 3 20) from sn_140 17) rfl h38 rfl ?_
  obtain ⟨h1, hca, V2, ne2, hY1, hf2, hP2, m1, m2⟩ := jt_25 (d := 26) (t := s) hY (by decide) hP
  refine Jcallv0 (b := 12) hY (show mx_Sn _ _ 20 (mx_callv 25 2 4 23) from sn_140 20) rfl hP.2.1 hca rfl rfl ?_
  have hY := hY1
  have h38 : V2 38 = D38 s mc := (hf2 38 rfl).trans h38
  refine mx_J.step (sn_140 23) (fun _ _ => rfl) ?_
  refine Jgetf hY (show mx_Sn _ _ 24 (mx_getf 11 6 27) from sn_140 24) rfl (kb_1 hP2.1) rfl ?_
  refine mx_J.step (sn_140 27) (fun _ _ => rfl) ?_
  refine Jgetf hY (show mx_Sn _ _ 28 (mx_getf 5 2 31) from sn_140 28) rfl h38 rfl ?_
  refine mx_J.step (sn_140 31) (fun _ _ => rfl) ?_
  obtain ⟨h1, hca, V3, hY1, hf3, hP3⟩ := jt_26_6 hY hP2 (by omega) (by omega)
  refine Jcallv (b := 12) hY (show mx_Sn _ _ 32 (mx_callv 26 3 4 35) from sn_140 32) rfl hP2.2.1 hca rfl rfl ?_
  have hY := hY1
  have h38 : V3 38 = D38 s mc := (hf3 38 rfl).trans h38
  have hf4 := (hf2.mono (l2 := [12, 14, 16, 17, 19, 38]) rfl).trans (hf3.mono rfl)
  refine mx_J.step (sn_140 35) (fun _ _ => rfl) ?_
  refine mx_J.step (sn_140 36) (fun _ _ => rfl) ?_
  refine Jif_ge_f (show mx_Sn _ _ 37 (mx_if_ge 42 40) from sn_140 37) (by decide +kernel) ?_
  refine mx_J.step (sn_140 40) (fun _ _ => rfl) ?_
  exact mx_J.ret (sn_140 41) (fun _ _ => rfl) ⟨rfl, V3, ne2, mc, hY, hf4, hP3, h38, m1, m2⟩
set_option maxHeartbeats 300000 in
set_option maxRecDepth 100000 in
theorem dd_6 {ne : Nat} {s mc : Int32} (hY : YH 84 62986 V h) (hP : PC V ne) (h38 : V 38 = D38 s mc) (n1 : 1 ≤ ne) (n2 : ne < 63) : ∃ h2, mx_Ca (tB l D b0 ad Hb tau) 29 139 [.ref 1, .ref 38, .long 6] h (some (.int 2), h2) ∧ ∃ V2 ne2 mc2, YH 84 62986 V2 h2 ∧ fr [12, 14, 16, 17, 19, 38] V V2 ∧ PC V2 ne2 ∧ V2 38 = D38 s mc2 ∧ ne ≤ ne2 ∧ ne2 ≤ ne + 1 := by
  refine Jm (M := (prog_1_method_52_code, 5, "TitheHeap", "doDeed", (Option.some Jvm.ClassFile.FieldType.int))) rfl rfl rfl rfl rfl ?_
  show mx_J _ _ _ 0 [some (.ref 1), some (.ref 38), some (.long 6), none, none] [] h _
  refine mx_J.step (sn_139 0) (fun _ _ => rfl) ?_
  refine mx_J.step (sn_139 1) (fun _ _ => rfl) ?_
  refine Jlif_lt_f (show mx_Sn _ _ 2 (mx_lif_lt 14 6) from sn_139 2) (by decide +kernel) ?_
  refine mx_J.step (sn_139 6) (fun _ _ => rfl) ?_
  refine mx_J.step (sn_139 7) (fun _ _ => rfl) ?_
  refine Jlif_le_t (show mx_Sn _ _ 10 (mx_lif_le 16 14) from sn_139 10) (by decide +kernel) ?_
  refine mx_J.step (sn_139 16) (fun _ _ => rfl) ?_
  refine mx_J.step (sn_139 17) (fun _ _ => rfl) ?_
  refine mx_J.step (sn_139 18) (fun _ _ => rfl) ?_
  refine mx_J.step (sn_139 20) (fun _ _ => rfl) ?_
  refine mx_J.step (sn_139 22) (fun _ _ => rfl) ?_
  refine Jicmp_gt_f (show mx_Sn _ _ 24 (mx_icmp_gt 35 27) from sn_139 24) (by decide +kernel) ?_
  refine mx_J.step (sn_139 27) (fun _ _ => rfl) ?_
  refine mx_J.step (sn_139 28) (fun _ _ => rfl) ?_
  refine mx_J.step (sn_139 29) (fun _ _ => rfl) ?_
  obtain ⟨h1, hca, V2, ne2, mc2, hY1, hf2, hP2, k38, m1, m2⟩ := jt_140_6 hY hP h38 n1 n2
  refine Jcallv (b := 1) hY (show mx_Sn _ _ 31 (mx_callv 140 3 11 34) from sn_139 31) rfl (kb_1 hP.1) hca rfl rfl ?_
  have hY := hY1
  exact mx_J.ret (sn_139 34) (fun _ _ => rfl) ⟨rfl, V2, ne2, mc2, hY, hf2, hP2, k38, m1, m2⟩
set_option maxHeartbeats 300000 in
set_option maxRecDepth 100000 in
theorem jt_140_7 {ne : Nat} {s mc : Int32} (hY : YH 84 62986 V h) (hP : PC V ne) (h38 : V 38 = D38 s mc) (n1 : 1 ≤ ne) (n2 : ne < 63) : ∃ h2, mx_Ca (tB l D b0 ad Hb tau) 28 140 [.ref 1, .ref 38, .int 7] h (some (.int 2), h2) ∧ ∃ V2 ne2 mc2, YH 84 62986 V2 h2 ∧ fr [12, 14, 16, 17, 19, 38] V V2 ∧ PC V2 ne2 ∧ V2 38 = D38 s mc2 ∧ ne ≤ ne2 ∧ ne2 ≤ ne + 1 := by
  refine Jm (M := (prog_1_method_53_code, 4, "TitheHeap", "moonDeed", (Option.some Jvm.ClassFile.FieldType.int))) rfl rfl rfl rfl rfl ?_
  show mx_J _ _ _ 0 [some (.ref 1), some (.ref 38), some (.int 7), none] [] h _
  refine mx_J.step (sn_140 0) (fun _ _ => rfl) ?_
  refine Jif_lt_f (show mx_Sn _ _ 1 (mx_if_lt 10 4) from sn_140 1) (by decide +kernel) ?_
  refine mx_J.step (sn_140 4) (fun _ _ => rfl) ?_
  refine mx_J.step (sn_140 5) (fun _ _ => rfl) ?_
  refine Jicmp_le_t (show mx_Sn _ _ 7 (mx_icmp_le 12 10) from sn_140 7) (by decide +kernel) ?_
  refine mx_J.step (sn_140 12) (fun _ _ => rfl) ?_
  refine Jgetf hY (show mx_Sn _ _ 13 (mx_getf 11 6 16) from sn_140 13) rfl (kb_1 hP.1) rfl ?_
  refine mx_J.step (sn_140 16) (fun _ _ => rfl) ?_
  refine Jgetf hY (show mx_Sn _ _ 17 (mx_getf 5 3 20) from sn_140 17) rfl h38 rfl ?_
  obtain ⟨h1, hca, V2, ne2, hY1, hf2, hP2, m1, m2⟩ := jt_25 (d := 26) (t := s) hY (by decide) hP
  refine Jcallv0 (b := 12) hY (show mx_Sn _ _ 20 (mx_callv 25 2 4 23) from sn_140 20) rfl hP.2.1 hca rfl rfl ?_
  have hY := hY1
  have h38 : V2 38 = D38 s mc := (hf2 38 rfl).trans h38
  refine mx_J.step (sn_140 23) (fun _ _ => rfl) ?_
  refine Jgetf hY (show mx_Sn _ _ 24 (mx_getf 11 6 27) from sn_140 24) rfl (kb_1 hP2.1) rfl ?_
  refine mx_J.step (sn_140 27) (fun _ _ => rfl) ?_
  refine Jgetf hY (show mx_Sn _ _ 28 (mx_getf 5 2 31) from sn_140 28) rfl h38 rfl ?_
  refine mx_J.step (sn_140 31) (fun _ _ => rfl) ?_
  obtain ⟨h1, hca, V3, hY1, hf3, hP3⟩ := jt_26_7 hY hP2 (by omega) (by omega)
  refine Jcallv (b := 12) hY (show mx_Sn _ _ 32 (mx_callv 26 3 4 35) from sn_140 32) rfl hP2.2.1 hca rfl rfl ?_
  have hY := hY1
  have h38 : V3 38 = D38 s mc := (hf3 38 rfl).trans h38
  have hf4 := (hf2.mono (l2 := [12, 14, 16, 17, 19, 38]) rfl).trans (hf3.mono rfl)
  refine mx_J.step (sn_140 35) (fun _ _ => rfl) ?_
  refine mx_J.step (sn_140 36) (fun _ _ => rfl) ?_
  refine Jif_ge_f (show mx_Sn _ _ 37 (mx_if_ge 42 40) from sn_140 37) (by decide +kernel) ?_
  refine mx_J.step (sn_140 40) (fun _ _ => rfl) ?_
  exact mx_J.ret (sn_140 41) (fun _ _ => rfl) ⟨rfl, V3, ne2, mc, hY, hf4, hP3, h38, m1, m2⟩
set_option maxHeartbeats 300000 in
set_option maxRecDepth 100000 in
theorem dd_7 {ne : Nat} {s mc : Int32} (hY : YH 84 62986 V h) (hP : PC V ne) (h38 : V 38 = D38 s mc) (n1 : 1 ≤ ne) (n2 : ne < 63) : ∃ h2, mx_Ca (tB l D b0 ad Hb tau) 29 139 [.ref 1, .ref 38, .long 7] h (some (.int 2), h2) ∧ ∃ V2 ne2 mc2, YH 84 62986 V2 h2 ∧ fr [12, 14, 16, 17, 19, 38] V V2 ∧ PC V2 ne2 ∧ V2 38 = D38 s mc2 ∧ ne ≤ ne2 ∧ ne2 ≤ ne + 1 := by
  refine Jm (M := (prog_1_method_52_code, 5, "TitheHeap", "doDeed", (Option.some Jvm.ClassFile.FieldType.int))) rfl rfl rfl rfl rfl ?_
  show mx_J _ _ _ 0 [some (.ref 1), some (.ref 38), some (.long 7), none, none] [] h _
  refine mx_J.step (sn_139 0) (fun _ _ => rfl) ?_
  refine mx_J.step (sn_139 1) (fun _ _ => rfl) ?_
  refine Jlif_lt_f (show mx_Sn _ _ 2 (mx_lif_lt 14 6) from sn_139 2) (by decide +kernel) ?_
  refine mx_J.step (sn_139 6) (fun _ _ => rfl) ?_
  refine mx_J.step (sn_139 7) (fun _ _ => rfl) ?_
  refine Jlif_le_t (show mx_Sn _ _ 10 (mx_lif_le 16 14) from sn_139 10) (by decide +kernel) ?_
  refine mx_J.step (sn_139 16) (fun _ _ => rfl) ?_
  refine mx_J.step (sn_139 17) (fun _ _ => rfl) ?_
  refine mx_J.step (sn_139 18) (fun _ _ => rfl) ?_
  refine mx_J.step (sn_139 20) (fun _ _ => rfl) ?_
  refine mx_J.step (sn_139 22) (fun _ _ => rfl) ?_
  refine Jicmp_gt_f (show mx_Sn _ _ 24 (mx_icmp_gt 35 27) from sn_139 24) (by decide +kernel) ?_
  refine mx_J.step (sn_139 27) (fun _ _ => rfl) ?_
  refine mx_J.step (sn_139 28) (fun _ _ => rfl) ?_
  refine mx_J.step (sn_139 29) (fun _ _ => rfl) ?_
  obtain ⟨h1, hca, V2, ne2, mc2, hY1, hf2, hP2, k38, m1, m2⟩ := jt_140_7 hY hP h38 n1 n2
  refine Jcallv (b := 1) hY (show mx_Sn _ _ 31 (mx_callv 140 3 11 34) from sn_139 31) rfl (kb_1 hP.1) hca rfl rfl ?_
  have hY := hY1
  exact mx_J.ret (sn_139 34) (fun _ _ => rfl) ⟨rfl, V2, ne2, mc2, hY, hf2, hP2, k38, m1, m2⟩
end WK2
