def LV (V : Nat → mx_C) (x y : Int64) : Prop := V 56 = zc_56 ∧ V 57 = zc_57 ∧ V 61 = zc_61 ∧ (∃ a, V 62 = H62 a) ∧ (∃ c, V 65 = Z65 c) ∧ V 76 = L76 x ∧ V 77 = L76 y
section HW
variable {l : Launch} {D : va_G} {b0 : Nat} {ad : Nat → Nat} {Hb : Heap} {tau : Nat → Int64} {h : mx_H} {V : Nat → mx_C}
set_option maxHeartbeats 300000 in
set_option maxRecDepth 100000 in
theorem lot_0 {j : Nat} {n i : Int32} {x y : Int64} {Post : mx_R → Prop} (hj : j < 10) (hj0 : j = 0) (hX : ¬ lg_cmp x 0 ≤ 0) (hY : YH 83 62985 V h) (hL : LV V x y) (K : ∀ V2 h2, YH 83 62985 V2 h2 → LV V2 x (y + x) → mx_J (tB l D b0 ad Hb tau) (prog_14_method_119_code, 5, "TitheHeapModel", "laysLikely", (Option.none : Option Jvm.ClassFile.FieldType)) 28 24 [some (.ref 56), some (.int n), some (.int i), some (.int 0), some (.int (nI (j + 1)))] [] h2 Post) : mx_J (tB l D b0 ad Hb tau) (prog_14_method_119_code, 5, "TitheHeapModel", "laysLikely", (Option.none : Option Jvm.ClassFile.FieldType)) 28 24 [some (.ref 56), some (.int n), some (.int i), some (.int 0), some (.int (nI j))] [] h Post := by
  obtain ⟨h56, h57, h61, ⟨a, h62⟩, ⟨c, h65⟩, h76, h77⟩ := hL
  have h76 : V 76 = .inr (.long, 385, mx_set 13 L0 0 (.long x)) := h76
  have h77 : V 77 = .inr (.long, 385, mx_set 13 L0 0 (.long y)) := h77
  refine mx_J.step (sn_271 24) (fun _ _ => rfl) ?_
  refine mx_J.step (sn_271 26) (fun _ _ => rfl) ?_
  refine Jicmp_ge_f (show mx_Sn _ _ 28 (mx_icmp_ge 90 31) from sn_271 28) (by have h9 : ¬ nI 10 ≤ nI j := nI_ge hj (by decide); exact h9) ?_
  refine mx_J.step (sn_271 31) (fun _ _ => rfl) ?_
  refine Jgetf hY (show mx_Sn _ _ 32 (mx_getf 12 35 35) from sn_271 32) rfl h56 rfl ?_
  refine mx_J.step (sn_271 35) (fun _ _ => rfl) ?_
  refine Jlald (i := 0) hY (show mx_Sn _ _ 36 (mx_lald 37) from sn_271 36) rfl h76 (by decide +kernel) (gs_eq (by decide)) ?_
  refine mx_J.step (sn_271 37) (fun _ _ => rfl) ?_
  refine Jlif_le_f (show mx_Sn _ _ 38 (mx_lif_le 90 42) from sn_271 38) hX ?_
  refine mx_J.step (sn_271 42) (fun _ _ => rfl) ?_
  refine Jgetf hY (show mx_Sn _ _ 43 (mx_getf 12 36 46) from sn_271 43) rfl h56 rfl ?_
  refine mx_J.step (sn_271 46) (fun _ _ => rfl) ?_
  refine mx_J.step (sn_271 47) (fun _ _ => rfl) ?_
  refine mx_J.step (sn_271 48) (fun _ _ => rfl) ?_
  refine mx_J.step (sn_271 50) (fun _ _ => rfl) ?_
  refine mx_J.step (sn_271 51) (fun _ _ => rfl) ?_
  obtain ⟨h1, hca, hY1⟩ := mi_28 (l := l) (D := D) (b0 := b0) (ad := ad) (Hb := Hb) (tau := tau) hY h56 h61
  refine Jcallv (b := 56) hY (show mx_Sn _ _ 52 (mx_callv 191 2 12 55) from sn_271 52) rfl h56 hca rfl rfl ?_
  have hY := hY1
  refine Jicmp_ge_f (show mx_Sn _ _ 55 (mx_icmp_ge 63 58) from sn_271 55) (by subst hj0; decide +kernel) ?_
  subst hj0
  refine mx_J.step (sn_271 58) (fun _ _ => rfl) ?_
  refine mx_J.step (sn_271 60) (fun _ _ => rfl) ?_
  refine mx_J.step (sn_271 64) (fun _ _ => rfl) ?_
  refine Jgetf hY (show mx_Sn _ _ 65 (mx_getf 12 1 68) from sn_271 65) rfl h56 rfl ?_
  refine mx_J.step (sn_271 68) (fun _ _ => rfl) ?_
  refine Jiald (i := 28) hY (show mx_Sn _ _ 70 (mx_iald 71) from sn_271 70) rfl h57 (by decide +kernel) (z57_28) ?_
  obtain ⟨h1, hca, hY1⟩ := mb_0 (l := l) (D := D) (b0 := b0) (ad := ad) (Hb := Hb) (tau := tau) hY h56 h57 h61 h62 h65
  refine Jcallv (b := 56) hY (show mx_Sn _ _ 71 (mx_callv 196 4 12 74) from sn_271 71) rfl h56 hca rfl rfl ?_
  have hY := hY1
  refine mx_J.step (sn_271 74) (fun _ _ => rfl) ?_
  refine Jlald (i := 0) hY (show mx_Sn _ _ 75 (mx_lald 76) from sn_271 75) rfl h77 (by decide +kernel) (gs_eq (by decide)) ?_
  refine mx_J.step (sn_271 76) (fun _ _ => rfl) ?_
  refine Jgetf hY (show mx_Sn _ _ 77 (mx_getf 12 35 80) from sn_271 77) rfl h56 rfl ?_
  refine mx_J.step (sn_271 80) (fun _ _ => rfl) ?_
  refine Jlald (i := 0) hY (show mx_Sn _ _ 81 (mx_lald 82) from sn_271 81) rfl h76 (by decide +kernel) (gs_eq (by decide)) ?_
  refine mx_J.step (sn_271 82) (fun _ _ => rfl) ?_
  refine Jlast (i := 0) hY (show mx_Sn _ _ 83 (mx_last 1 84) from sn_271 83) rfl rfl h77 (by decide +kernel) (by decide) (fun h hY => ?_)
  refine mx_J.step (sn_271 84) (fun _ _ => rfl) ?_
  refine mx_J.step (sn_271 87) (fun _ _ => rfl) ?_
  have hY := hY.re (c2 := L76 (y + x)) (peSS (by decide) (by decide))
  have hf := frY (l := [62, 65, 77]) hY (fr.up (fr.up (fr.up fr.rfl' rfl) rfl) rfl)
  show mx_J _ _ _ 24 [some (.ref 56), some (.int n), some (.int i), some (.int 0), some (.int (nI 0 + 1))] [] _ _
  rw [nI_1]
  exact K _ _ hY ⟨(hf 56 rfl).trans h56, (hf 57 rfl).trans h57, (hf 61 rfl).trans h61, ⟨true, (up_ne rfl).trans ((up_ne rfl).trans up_eq)⟩, ⟨_, (up_ne rfl).trans up_eq⟩, (hf 76 rfl).trans h76, up_eq⟩
set_option maxHeartbeats 300000 in
set_option maxRecDepth 100000 in
theorem lot_m {j : Nat} {n i : Int32} {x y : Int64} {Post : mx_R → Prop} (hj : j < 10) (hj0 : 1 ≤ j) (hX : ¬ lg_cmp x 0 ≤ 0) (hY : YH 83 62985 V h) (hL : LV V x y) (K : ∀ V2 h2, YH 83 62985 V2 h2 → LV V2 x (y + x) → mx_J (tB l D b0 ad Hb tau) (prog_14_method_119_code, 5, "TitheHeapModel", "laysLikely", (Option.none : Option Jvm.ClassFile.FieldType)) 28 24 [some (.ref 56), some (.int n), some (.int i), some (.int 0), some (.int (nI (j + 1)))] [] h2 Post) : mx_J (tB l D b0 ad Hb tau) (prog_14_method_119_code, 5, "TitheHeapModel", "laysLikely", (Option.none : Option Jvm.ClassFile.FieldType)) 28 24 [some (.ref 56), some (.int n), some (.int i), some (.int 0), some (.int (nI j))] [] h Post := by
  obtain ⟨h56, h57, h61, ⟨a, h62⟩, ⟨c, h65⟩, h76, h77⟩ := hL
  have h76 : V 76 = .inr (.long, 385, mx_set 13 L0 0 (.long x)) := h76
  have h77 : V 77 = .inr (.long, 385, mx_set 13 L0 0 (.long y)) := h77
  refine mx_J.step (sn_271 24) (fun _ _ => rfl) ?_
  refine mx_J.step (sn_271 26) (fun _ _ => rfl) ?_
  refine Jicmp_ge_f (show mx_Sn _ _ 28 (mx_icmp_ge 90 31) from sn_271 28) (by have h9 : ¬ nI 10 ≤ nI j := nI_ge hj (by decide); exact h9) ?_
  refine mx_J.step (sn_271 31) (fun _ _ => rfl) ?_
  refine Jgetf hY (show mx_Sn _ _ 32 (mx_getf 12 35 35) from sn_271 32) rfl h56 rfl ?_
  refine mx_J.step (sn_271 35) (fun _ _ => rfl) ?_
  refine Jlald (i := 0) hY (show mx_Sn _ _ 36 (mx_lald 37) from sn_271 36) rfl h76 (by decide +kernel) (gs_eq (by decide)) ?_
  refine mx_J.step (sn_271 37) (fun _ _ => rfl) ?_
  refine Jlif_le_f (show mx_Sn _ _ 38 (mx_lif_le 90 42) from sn_271 38) hX ?_
  refine mx_J.step (sn_271 42) (fun _ _ => rfl) ?_
  refine Jgetf hY (show mx_Sn _ _ 43 (mx_getf 12 36 46) from sn_271 43) rfl h56 rfl ?_
  refine mx_J.step (sn_271 46) (fun _ _ => rfl) ?_
  refine mx_J.step (sn_271 47) (fun _ _ => rfl) ?_
  refine mx_J.step (sn_271 48) (fun _ _ => rfl) ?_
  refine mx_J.step (sn_271 50) (fun _ _ => rfl) ?_
  refine mx_J.step (sn_271 51) (fun _ _ => rfl) ?_
  obtain ⟨h1, hca, hY1⟩ := mi_28 (l := l) (D := D) (b0 := b0) (ad := ad) (Hb := Hb) (tau := tau) hY h56 h61
  refine Jcallv (b := 56) hY (show mx_Sn _ _ 52 (mx_callv 191 2 12 55) from sn_271 52) rfl h56 hca rfl rfl ?_
  have hY := hY1
  refine Jicmp_ge_t (show mx_Sn _ _ 55 (mx_icmp_ge 63 58) from sn_271 55) (by have h9 : nI 1 ≤ nI j := nI_le hj0 (by omega); exact h9) ?_
  refine mx_J.step (sn_271 63) (fun _ _ => rfl) ?_
  refine mx_J.step (sn_271 64) (fun _ _ => rfl) ?_
  refine Jgetf hY (show mx_Sn _ _ 65 (mx_getf 12 1 68) from sn_271 65) rfl h56 rfl ?_
  refine mx_J.step (sn_271 68) (fun _ _ => rfl) ?_
  refine Jiald (i := 28) hY (show mx_Sn _ _ 70 (mx_iald 71) from sn_271 70) rfl h57 (by decide +kernel) (z57_28) ?_
  obtain ⟨h1, hca, hY1⟩ := mb_m (l := l) (D := D) (b0 := b0) (ad := ad) (Hb := Hb) (tau := tau) hY h56 h57 h61 h62 h65
  refine Jcallv (b := 56) hY (show mx_Sn _ _ 71 (mx_callv 196 4 12 74) from sn_271 71) rfl h56 hca rfl rfl ?_
  have hY := hY1
  refine mx_J.step (sn_271 74) (fun _ _ => rfl) ?_
  refine Jlald (i := 0) hY (show mx_Sn _ _ 75 (mx_lald 76) from sn_271 75) rfl h77 (by decide +kernel) (gs_eq (by decide)) ?_
  refine mx_J.step (sn_271 76) (fun _ _ => rfl) ?_
  refine Jgetf hY (show mx_Sn _ _ 77 (mx_getf 12 35 80) from sn_271 77) rfl h56 rfl ?_
  refine mx_J.step (sn_271 80) (fun _ _ => rfl) ?_
  refine Jlald (i := 0) hY (show mx_Sn _ _ 81 (mx_lald 82) from sn_271 81) rfl h76 (by decide +kernel) (gs_eq (by decide)) ?_
  refine mx_J.step (sn_271 82) (fun _ _ => rfl) ?_
  refine Jlast (i := 0) hY (show mx_Sn _ _ 83 (mx_last 1 84) from sn_271 83) rfl rfl h77 (by decide +kernel) (by decide) (fun h hY => ?_)
  refine mx_J.step (sn_271 84) (fun _ _ => rfl) ?_
  refine mx_J.step (sn_271 87) (fun _ _ => rfl) ?_
  have hY := hY.re (c2 := L76 (y + x)) (peSS (by decide) (by decide))
  have hf := frY (l := [62, 65, 77]) hY (fr.up (fr.up (fr.up fr.rfl' rfl) rfl) rfl)
  show mx_J _ _ _ 24 [some (.ref 56), some (.int n), some (.int i), some (.int 0), some (.int (nI j + 1))] [] _ _
  rw [nI_1]
  exact K _ _ hY ⟨(hf 56 rfl).trans h56, (hf 57 rfl).trans h57, (hf 61 rfl).trans h61, ⟨true, (up_ne rfl).trans ((up_ne rfl).trans up_eq)⟩, ⟨_, (up_ne rfl).trans up_eq⟩, (hf 76 rfl).trans h76, up_eq⟩
theorem lots {n i : Int32} {x : Int64} {Post : mx_R → Prop} (hX : ¬ lg_cmp x 0 ≤ 0) : ∀ (r j : Nat) (y : Int64) (V : Nat → mx_C) (h : mx_H), j + r = 10 → YH 83 62985 V h → LV V x y → (∀ V2 h2, YH 83 62985 V2 h2 → LV V2 x (accf r y x) → mx_J (tB l D b0 ad Hb tau) (prog_14_method_119_code, 5, "TitheHeapModel", "laysLikely", (Option.none : Option Jvm.ClassFile.FieldType)) 28 24 [some (.ref 56), some (.int n), some (.int i), some (.int 0), some (.int (nI 10))] [] h2 Post) → mx_J (tB l D b0 ad Hb tau) (prog_14_method_119_code, 5, "TitheHeapModel", "laysLikely", (Option.none : Option Jvm.ClassFile.FieldType)) 28 24 [some (.ref 56), some (.int n), some (.int i), some (.int 0), some (.int (nI j))] [] h Post
  | 0, j, y, V, h, hr, hY, hL, K => by
    obtain rfl : j = 10 := by omega
    exact K V h hY hL
  | r + 1, j, y, V, h, hr, hY, hL, K => by
    by_cases h0 : j = 0
    · exact lot_0 (by omega) h0 hX hY hL (fun V2 h2 hY2 hL2 => lots hX r (j + 1) (y + x) V2 h2 (by omega) hY2 hL2 K)
    · exact lot_m (by omega) (by omega) hX hY hL (fun V2 h2 hY2 hL2 => lots hX r (j + 1) (y + x) V2 h2 (by omega) hY2 hL2 K)
set_option maxHeartbeats 300000 in
set_option maxRecDepth 100000 in
theorem llk : ∀ (r a b : Nat) (z3 z4 : Option Value) (V : Nat → mx_C) (h : mx_H), a + r = b → b ≤ 7 → YH 83 62985 V h → LV V (pw a) 0 → mx_J (tB l D b0 ad Hb tau) (prog_14_method_119_code, 5, "TitheHeapModel", "laysLikely", (Option.none : Option Jvm.ClassFile.FieldType)) 28 6 [some (.ref 56), some (.int (nI b)), some (.int (nI a)), z3, z4] [] h (fun q => q.1 = none ∧ ∃ V2, YH 83 62985 V2 q.2 ∧ LV V2 (pw b) 0)
  | 0, a, b, z3, z4, V, h, hab, hb, hY, hL => by
    obtain rfl : a = b := by omega
    obtain ⟨h56, h57, -⟩ := id hL
    refine mx_J.step (sn_271 6) (fun _ _ => rfl) ?_
    refine mx_J.step (sn_271 7) (fun _ _ => rfl) ?_
    refine Jicmp_ge_t (show mx_Sn _ _ 8 (mx_icmp_ge 106 11) from sn_271 8) (nI_le (Nat.le_refl _) (by omega)) ?_
    exact mx_J.ret (sn_271 106) (fun _ _ => rfl) ⟨rfl, V, hY, hL⟩
  | r + 1, a, b, z3, z4, V, h, hab, hb, hY, hL => by
    obtain ⟨h56, h57, -⟩ := id hL
    refine mx_J.step (sn_271 6) (fun _ _ => rfl) ?_
    refine mx_J.step (sn_271 7) (fun _ _ => rfl) ?_
    refine Jicmp_ge_f (show mx_Sn _ _ 8 (mx_icmp_ge 106 11) from sn_271 8) (nI_ge (by omega) (by omega)) ?_
    refine mx_J.step (sn_271 11) (fun _ _ => rfl) ?_
    refine mx_J.step (sn_271 12) (fun _ _ => rfl) ?_
    refine mx_J.step (sn_271 13) (fun _ _ => rfl) ?_
    refine mx_J.step (sn_271 14) (fun _ _ => rfl) ?_
    refine Jgetf hY (show mx_Sn _ _ 15 (mx_getf 12 18 18) from sn_271 15) rfl h56 rfl ?_
    refine Jicmp_ge_f (show mx_Sn _ _ 18 (mx_icmp_ge 96 21) from sn_271 18) (by decide +kernel) ?_
    refine mx_J.step (sn_271 21) (fun _ _ => rfl) ?_
    refine mx_J.step (sn_271 22) (fun _ _ => rfl) ?_
    show mx_J _ _ _ 24 [some (.ref 56), some (.int (nI b)), some (.int (nI a)), some (.int 0), some (.int (nI 0))] [] _ _
    refine lots (pw_pos a (by omega)) 10 0 0 V _ rfl hY hL (fun V2 h2 hY hL => ?_)
    obtain ⟨h56, h57, h61, ⟨a2, h62⟩, ⟨c, h65⟩, h76, h77⟩ := hL
    have h76 : V2 76 = .inr (.long, 385, mx_set 13 L0 0 (.long (pw a))) := h76
    refine mx_J.step (sn_271 24) (fun _ _ => rfl) ?_
    refine mx_J.step (sn_271 26) (fun _ _ => rfl) ?_
    refine Jicmp_ge_t (show mx_Sn _ _ 28 (mx_icmp_ge 90 31) from sn_271 28) (by decide +kernel) ?_
    refine mx_J.step (sn_271 90) (fun _ _ => rfl) ?_
    refine mx_J.step (sn_271 93) (fun _ _ => rfl) ?_
    refine mx_J.step (sn_271 13) (fun _ _ => rfl) ?_
    refine mx_J.step (sn_271 14) (fun _ _ => rfl) ?_
    refine Jgetf hY (show mx_Sn _ _ 15 (mx_getf 12 18 18) from sn_271 15) rfl h56 rfl ?_
    refine Jicmp_ge_t (show mx_Sn _ _ 18 (mx_icmp_ge 96 21) from sn_271 18) (by decide +kernel) ?_
    refine mx_J.step (sn_271 96) (fun _ _ => rfl) ?_
    obtain ⟨h1, hca, hY1⟩ := it_28 (l := l) (D := D) (b0 := b0) (ad := ad) (Hb := Hb) (tau := tau) (i := a) (by omega) hY h56 h76 h77
    refine Jcallv0 (b := 56) hY (show mx_Sn _ _ 97 (mx_callv 244 1 12 100) from sn_271 97) rfl h56 hca rfl rfl ?_
    have hY := hY1
    refine mx_J.step (sn_271 100) (fun _ _ => rfl) ?_
    refine mx_J.step (sn_271 103) (fun _ _ => rfl) ?_
    have hf := frY (l := [76, 77]) hY (fr.up (fr.up fr.rfl' rfl) rfl)
    show mx_J _ _ _ 6 [some (.ref 56), some (.int (nI b)), some (.int (nI a + 1)), some (.int (0 + 1)), some (.int (nI 10))] [] _ _
    rw [nI_1]
    exact llk r (a + 1) b _ _ _ h1 (by omega) hb hY ⟨(hf 56 rfl).trans h56, (hf 57 rfl).trans h57, (hf 61 rfl).trans h61, ⟨a2, (hf 62 rfl).trans h62⟩, ⟨c, (hf 65 rfl).trans h65⟩, (up_ne rfl).trans up_eq, up_eq⟩
set_option maxHeartbeats 300000 in
set_option maxRecDepth 100000 in
theorem ll_29 {b : Nat} (hb : b ≤ 7) (hY : YH 83 62985 V h) (hL : LV V 0 0) : ∃ h2, mx_Ca (tB l D b0 ad Hb tau) 29 271 [.ref 56, .int (nI b)] h (none, h2) ∧ ∃ V2, YH 83 62985 V2 h2 ∧ LV V2 (pw b) 0 := by
  obtain ⟨h56, h57, h61, ⟨a, h62⟩, ⟨c, h65⟩, h76, h77⟩ := hL
  refine Jm (M := (prog_14_method_119_code, 5, "TitheHeapModel", "laysLikely", (Option.none : Option Jvm.ClassFile.FieldType))) rfl rfl rfl rfl rfl ?_
  show mx_J _ _ _ 0 [some (.ref 56), some (.int (nI b)), none, none, none] [] h _
  refine mx_J.step (sn_271 0) (fun _ _ => rfl) ?_
  obtain ⟨h1, hca, hY1⟩ := bm_28 (l := l) (D := D) (b0 := b0) (ad := ad) (Hb := Hb) (tau := tau) hY h56 h57 h76 h77
  refine Jcallv0 (b := 56) hY (show mx_Sn _ _ 1 (mx_callv 243 1 12 4) from sn_271 1) rfl h56 hca rfl rfl ?_
  have hY := hY1
  refine mx_J.step (sn_271 4) (fun _ _ => rfl) ?_
  refine mx_J.step (sn_271 5) (fun _ _ => rfl) ?_
  have hf := frY (l := [76, 77]) hY (fr.up (fr.up fr.rfl' rfl) rfl)
  show mx_J _ _ _ 6 [some (.ref 56), some (.int (nI b)), some (.int (nI 0)), none, none] [] _ _
  exact llk b 0 b none none _ _ (by omega) hb hY ⟨(hf 56 rfl).trans h56, (hf 57 rfl).trans h57, (hf 61 rfl).trans h61, ⟨a, (hf 62 rfl).trans h62⟩, ⟨c, (hf 65 rfl).trans h65⟩, (up_ne rfl).trans up_eq, up_eq⟩
set_option maxHeartbeats 300000 in
set_option maxRecDepth 100000 in
theorem jw {d : Nat} {x lo hi : Int64} (hY : YH 83 62985 V h) (c1 : ¬ lg_cmp x lo < 0) (c2 : ¬ 0 < lg_cmp x hi) : ∃ h2, mx_Ca (tB l D b0 ad Hb tau) (d + 1) 154 [.long x, .long lo, .long hi] h (some (.int 1), h2) ∧ YH 83 62985 V h2 := by
  refine Jm (M := (prog_14_method_2_code, 6, "TitheHeapModel", "within", (Option.some Jvm.ClassFile.FieldType.boolean))) rfl rfl rfl rfl rfl ?_
  show mx_J _ _ _ 0 [some (.long x), none, some (.long lo), none, some (.long hi), none] [] h _
  refine mx_J.step (sn_154 0) (fun _ _ => rfl) ?_
  refine mx_J.step (sn_154 1) (fun _ _ => rfl) ?_
  refine Jlif_lt_f (show mx_Sn _ _ 2 (mx_lif_lt 17 6) from sn_154 2) c1 ?_
  refine mx_J.step (sn_154 6) (fun _ _ => rfl) ?_
  refine mx_J.step (sn_154 7) (fun _ _ => rfl) ?_
  refine Jlif_gt_f (show mx_Sn _ _ 9 (mx_lif_gt 17 13) from sn_154 9) c2 ?_
  refine mx_J.step (sn_154 13) (fun _ _ => rfl) ?_
  refine mx_J.step (sn_154 14) (fun _ _ => rfl) ?_
  exact mx_J.ret (sn_154 18) (fun _ _ => rfl) ⟨rfl, hY⟩
set_option maxHeartbeats 300000 in
set_option maxRecDepth 100000 in
theorem js {x : Int64} (hY : YH 83 62985 V h) (c1 : ¬ lg_cmp x 1 < 0) (c2 : ¬ 0 < lg_cmp x 18) : ∃ h2, mx_Ca (tB l D b0 ad Hb tau) 29 208 [.long x] h (some (.int 1), h2) ∧ YH 83 62985 V h2 := by
  refine Jm (M := (prog_14_method_56_code, 2, "TitheHeapModel", "isSize", (Option.some Jvm.ClassFile.FieldType.boolean))) rfl rfl rfl rfl rfl ?_
  show mx_J _ _ _ 0 [some (.long x), none] [] h _
  refine mx_J.step (sn_208 0) (fun _ _ => rfl) ?_
  refine mx_J.step (sn_208 1) (fun _ _ => rfl) ?_
  refine mx_J.step (sn_208 2) (fun _ _ => rfl) ?_
  obtain ⟨h1, hca, hY1⟩ := jw (l := l) (D := D) (b0 := b0) (ad := ad) (Hb := Hb) (tau := tau) (d := 27) hY c1 c2
  refine Jcalls (show mx_Sn _ _ 5 (mx_calls 154 3 8) from sn_208 5) hca rfl rfl ?_
  have hY := hY1
  exact mx_J.ret (sn_208 8) (fun _ _ => rfl) ⟨rfl, hY⟩
set_option maxRecDepth 100000 in
theorem lgw : ∀ w, w < 2 → ¬ lg_cmp (nI w).toInt64 0 < 0 ∧ ¬ 0 < lg_cmp (nI w).toInt64 1 := by decide +kernel
set_option maxRecDepth 100000 in
theorem lgn : ∀ n, n < 8 → ¬ lg_cmp (nI n).toInt64 0 < 0 ∧ ¬ 0 < lg_cmp (nI n).toInt64 7 := by decide +kernel
set_option maxRecDepth 100000 in
theorem lgk : ∀ k, k < 19 → 1 ≤ k → ¬ lg_cmp (nI k).toInt64 1 < 0 ∧ ¬ 0 < lg_cmp (nI k).toInt64 18 ∧ ¬ nI k < 1 := by decide +kernel
set_option maxHeartbeats 300000 in
set_option maxRecDepth 100000 in
theorem mc_all {k n w : Nat} (hk : k < 19) (k1 : 1 ≤ k) (hn : n < 8) (hw : w < 2) (hY : YH 83 62985 V h) (hK : KM V) : ∃ h2, mx_Ca (tB l D b0 ad Hb tau) 30 275 [.ref 56, .int (nI k), .int (nI n), .int (nI w)] h (some (.int 1), h2) ∧ ∃ V2, YH 83 62985 V2 h2 := by
  have h56 : V 56 = zc_56 := (hK 56 (by decide) (by decide)).trans vb_56
  have h57 : V 57 = zc_57 := (hK 57 (by decide) (by decide)).trans vb_57
  have h61 : V 61 = zc_61 := (hK 61 (by decide) (by decide)).trans vb_61
  have h62 : V 62 = H62 false := ((hK 62 (by decide) (by decide)).trans vb_62).trans h62f
  have h65 : V 65 = zc_65 := (hK 65 (by decide) (by decide)).trans vb_65
  have h76 : V 76 = zc_76 := (hK 76 (by decide) (by decide)).trans rfl
  have h77 : V 77 = zc_77 := (hK 77 (by decide) (by decide)).trans rfl
  refine Jm (M := (prog_14_method_123_code, 7, "TitheHeapModel", "chance", (Option.some Jvm.ClassFile.FieldType.int))) rfl rfl rfl rfl rfl ?_
  show mx_J _ _ _ 0 [some (.ref 56), some (.int (nI k)), some (.int (nI n)), some (.int (nI w)), none, none, none] [] h _
  refine mx_J.step (sn_275 0) (fun _ _ => rfl) ?_
  refine mx_J.step (sn_275 1) (fun _ _ => rfl) ?_
  refine Jputf hY (show mx_Sn _ _ 2 (mx_putf 1 12 0 (.int) 5) from sn_275 2) rfl rfl h56 rfl (fun h hY => ?_)
  refine mx_J.step (sn_275 5) (fun _ _ => rfl) ?_
  refine mx_J.step (sn_275 6) (fun _ _ => rfl) ?_
  refine mx_J.step (sn_275 7) (fun _ _ => rfl) ?_
  refine mx_J.step (sn_275 8) (fun _ _ => rfl) ?_
  obtain ⟨h1, hca, hY1⟩ := jw (l := l) (D := D) (b0 := b0) (ad := ad) (Hb := Hb) (tau := tau) (d := 28) hY (lgw w hw).1 (lgw w hw).2
  refine Jcalls (show mx_Sn _ _ 9 (mx_calls 154 3 12) from sn_275 9) hca rfl rfl ?_
  have hY := hY1
  refine Jif_ne_t (show mx_Sn _ _ 12 (mx_if_ne 18 15) from sn_275 12) (by decide +kernel) ?_
  refine mx_J.step (sn_275 18) (fun _ _ => rfl) ?_
  refine mx_J.step (sn_275 19) (fun _ _ => rfl) ?_
  obtain ⟨h1, hca, hY1⟩ := js (l := l) (D := D) (b0 := b0) (ad := ad) (Hb := Hb) (tau := tau) hY (lgk k hk k1).1 (lgk k hk k1).2.1
  refine Jcalls (show mx_Sn _ _ 20 (mx_calls 208 1 23) from sn_275 20) hca rfl rfl ?_
  have hY := hY1
  refine Jif_eq_f (show mx_Sn _ _ 23 (mx_if_eq 38 26) from sn_275 23) (by decide +kernel) ?_
  refine mx_J.step (sn_275 26) (fun _ _ => rfl) ?_
  refine mx_J.step (sn_275 27) (fun _ _ => rfl) ?_
  refine mx_J.step (sn_275 28) (fun _ _ => rfl) ?_
  refine mx_J.step (sn_275 29) (fun _ _ => rfl) ?_
  obtain ⟨h1, hca, hY1⟩ := jw (l := l) (D := D) (b0 := b0) (ad := ad) (Hb := Hb) (tau := tau) (d := 28) hY (lgn n hn).1 (lgn n hn).2
  refine Jcalls (show mx_Sn _ _ 32 (mx_calls 154 3 35) from sn_275 32) hca rfl rfl ?_
  have hY := hY1
  refine Jif_ne_t (show mx_Sn _ _ 35 (mx_if_ne 41 38) from sn_275 35) (by decide +kernel) ?_
  refine mx_J.step (sn_275 41) (fun _ _ => rfl) ?_
  refine mx_J.step (sn_275 42) (fun _ _ => rfl) ?_
  have hf := frY (l := [56]) hY (fr.up fr.rfl' rfl)
  have hY := hY.alt (a := 65) (c := Z65 false) (pe_eql ((hf 65 rfl).trans h65) q65y)
  have hY := hY.alt (a := 76) (c := L76 0) (pe_eql ((up_ne rfl).trans ((hf 76 rfl).trans h76)) q76)
  have hY := hY.alt (a := 77) (c := L76 0) (pe_eql ((up_ne rfl).trans ((up_ne rfl).trans ((hf 77 rfl).trans h77))) q77)
  have hL : LV _ 0 0 := ⟨(up_ne rfl).trans ((up_ne rfl).trans ((up_ne rfl).trans (up_eq))), (up_ne rfl).trans ((up_ne rfl).trans ((up_ne rfl).trans ((hf 57 rfl).trans h57))), (up_ne rfl).trans ((up_ne rfl).trans ((up_ne rfl).trans ((hf 61 rfl).trans h61))), ⟨false, (up_ne rfl).trans ((up_ne rfl).trans ((up_ne rfl).trans ((hf 62 rfl).trans h62)))⟩, ⟨false, (up_ne rfl).trans ((up_ne rfl).trans up_eq)⟩, (up_ne rfl).trans up_eq, up_eq⟩
  obtain ⟨h56, -⟩ := id hL
  obtain ⟨h1, hca, V2, hY1, hL2⟩ := ll_29 (l := l) (D := D) (b0 := b0) (ad := ad) (Hb := Hb) (tau := tau) (b := n) (by omega) hY hL
  refine Jcallv0 (b := 56) hY (show mx_Sn _ _ 43 (mx_callv 271 2 12 46) from sn_275 43) rfl h56 hca rfl rfl ?_
  have hY := hY1
  obtain ⟨h56, h57, h61, -, -, h76, h77⟩ := hL2
  have h76 : V2 76 = .inr (.long, 385, mx_set 13 L0 0 (.long (pw n))) := h76
  refine mx_J.step (sn_275 46) (fun _ _ => rfl) ?_
  refine mx_J.step (sn_275 47) (fun _ _ => rfl) ?_
  refine mx_J.step (sn_275 49) (fun _ _ => rfl) ?_
  refine mx_J.step (sn_275 50) (fun _ _ => rfl) ?_
  refine mx_J.step (sn_275 52) (fun _ _ => rfl) ?_
  refine mx_J.step (sn_275 54) (fun _ _ => rfl) ?_
  refine Jgetf hY (show mx_Sn _ _ 55 (mx_getf 12 18 58) from sn_275 55) rfl h56 rfl ?_
  refine Jicmp_ge_f (show mx_Sn _ _ 58 (mx_icmp_ge 93 61) from sn_275 58) (by decide +kernel) ?_
  refine mx_J.step (sn_275 61) (fun _ _ => rfl) ?_
  refine mx_J.step (sn_275 63) (fun _ _ => rfl) ?_
  refine mx_J.step (sn_275 64) (fun _ _ => rfl) ?_
  obtain ⟨h1, hca, hY1⟩ := mi_29 (l := l) (D := D) (b0 := b0) (ad := ad) (Hb := Hb) (tau := tau) hY h56 h61
  refine Jcallv (b := 56) hY (show mx_Sn _ _ 66 (mx_callv 191 2 12 69) from sn_275 66) rfl h56 hca rfl rfl ?_
  have hY := hY1
  refine mx_J.step (sn_275 69) (fun _ _ => rfl) ?_
  refine Jicmp_gt_f (show mx_Sn _ _ 70 (mx_icmp_gt 83 73) from sn_275 70) (lgk k hk k1).2.2 ?_
  refine mx_J.step (sn_275 73) (fun _ _ => rfl) ?_
  refine Jgetf hY (show mx_Sn _ _ 74 (mx_getf 12 35 77) from sn_275 74) rfl h56 rfl ?_
  refine mx_J.step (sn_275 77) (fun _ _ => rfl) ?_
  refine Jlald (i := 0) hY (show mx_Sn _ _ 79 (mx_lald 80) from sn_275 79) rfl h76 (by decide +kernel) (gs_eq (by decide)) ?_
  refine mx_J.step (sn_275 80) (fun _ _ => rfl) ?_
  refine mx_J.step (sn_275 84) (fun _ _ => rfl) ?_
  refine mx_J.step (sn_275 85) (fun _ _ => rfl) ?_
  refine mx_J.step (sn_275 87) (fun _ _ => rfl) ?_
  refine mx_J.step (sn_275 90) (fun _ _ => rfl) ?_
  refine mx_J.step (sn_275 52) (fun _ _ => rfl) ?_
  refine mx_J.step (sn_275 54) (fun _ _ => rfl) ?_
  refine Jgetf hY (show mx_Sn _ _ 55 (mx_getf 12 18 58) from sn_275 55) rfl h56 rfl ?_
  refine Jicmp_ge_t (show mx_Sn _ _ 58 (mx_icmp_ge 93 61) from sn_275 58) (by decide +kernel) ?_
  refine mx_J.step (sn_275 93) (fun _ _ => rfl) ?_
  refine mx_J.step (sn_275 95) (fun _ _ => rfl) ?_
  obtain ⟨h1, hca, hY1⟩ := wo_29 (l := l) (D := D) (b0 := b0) (ad := ad) (Hb := Hb) (tau := tau) hn hY
  refine Jcalls (show mx_Sn _ _ 96 (mx_calls 272 1 99) from sn_275 96) hca rfl rfl ?_
  have hY := hY1
  refine mx_J.step (sn_275 99) (fun _ _ => rfl) ?_
  obtain ⟨h1, hca, hY1⟩ := po_29 (l := l) (D := D) (b0 := b0) (ad := ad) (Hb := Hb) (tau := tau) hn hw hY
  refine Jcalls (show mx_Sn _ _ 100 (mx_calls 274 3 103) from sn_275 100) hca rfl rfl ?_
  have hY := hY1
  exact mx_J.ret (sn_275 103) (fun _ _ => rfl) ⟨rfl, V2, hY⟩
set_option maxHeartbeats 300000 in
set_option maxRecDepth 100000 in
theorem mm_all {n w : Nat} (hn : n < 8) (hw : w < 2) (hY : YH 83 62985 V h) (hK : KM V) : ∃ h2, mx_Ca (tB l D b0 ad Hb tau) 30 276 [.ref 56, .int (nI n), .int (nI w)] h (some (.int 1), h2) ∧ ∃ V2, YH 83 62985 V2 h2 := by
  have h56 : V 56 = zc_56 := (hK 56 (by decide) (by decide)).trans vb_56
  have h57 : V 57 = zc_57 := (hK 57 (by decide) (by decide)).trans vb_57
  have h61 : V 61 = zc_61 := (hK 61 (by decide) (by decide)).trans vb_61
  have h62 : V 62 = H62 false := ((hK 62 (by decide) (by decide)).trans vb_62).trans h62f
  have h65 : V 65 = zc_65 := (hK 65 (by decide) (by decide)).trans vb_65
  have h76 : V 76 = zc_76 := (hK 76 (by decide) (by decide)).trans rfl
  have h77 : V 77 = zc_77 := (hK 77 (by decide) (by decide)).trans rfl
  refine Jm (M := (prog_14_method_124_code, 6, "TitheHeapModel", "mean", (Option.some Jvm.ClassFile.FieldType.int))) rfl rfl rfl rfl rfl ?_
  show mx_J _ _ _ 0 [some (.ref 56), some (.int (nI n)), some (.int (nI w)), none, none, none] [] h _
  refine mx_J.step (sn_276 0) (fun _ _ => rfl) ?_
  refine mx_J.step (sn_276 1) (fun _ _ => rfl) ?_
  refine Jputf hY (show mx_Sn _ _ 2 (mx_putf 1 12 0 (.int) 5) from sn_276 2) rfl rfl h56 rfl (fun h hY => ?_)
  refine mx_J.step (sn_276 5) (fun _ _ => rfl) ?_
  refine mx_J.step (sn_276 6) (fun _ _ => rfl) ?_
  refine mx_J.step (sn_276 7) (fun _ _ => rfl) ?_
  refine mx_J.step (sn_276 8) (fun _ _ => rfl) ?_
  obtain ⟨h1, hca, hY1⟩ := jw (l := l) (D := D) (b0 := b0) (ad := ad) (Hb := Hb) (tau := tau) (d := 28) hY (lgw w hw).1 (lgw w hw).2
  refine Jcalls (show mx_Sn _ _ 9 (mx_calls 154 3 12) from sn_276 9) hca rfl rfl ?_
  have hY := hY1
  refine Jif_ne_t (show mx_Sn _ _ 12 (mx_if_ne 18 15) from sn_276 12) (by decide +kernel) ?_
  refine mx_J.step (sn_276 18) (fun _ _ => rfl) ?_
  refine mx_J.step (sn_276 19) (fun _ _ => rfl) ?_
  refine mx_J.step (sn_276 20) (fun _ _ => rfl) ?_
  refine mx_J.step (sn_276 21) (fun _ _ => rfl) ?_
  obtain ⟨h1, hca, hY1⟩ := jw (l := l) (D := D) (b0 := b0) (ad := ad) (Hb := Hb) (tau := tau) (d := 28) hY (lgn n hn).1 (lgn n hn).2
  refine Jcalls (show mx_Sn _ _ 24 (mx_calls 154 3 27) from sn_276 24) hca rfl rfl ?_
  have hY := hY1
  refine Jif_ne_t (show mx_Sn _ _ 27 (mx_if_ne 33 30) from sn_276 27) (by decide +kernel) ?_
  refine mx_J.step (sn_276 33) (fun _ _ => rfl) ?_
  refine mx_J.step (sn_276 34) (fun _ _ => rfl) ?_
  have hf := frY (l := [56]) hY (fr.up fr.rfl' rfl)
  have hY := hY.alt (a := 65) (c := Z65 false) (pe_eql ((hf 65 rfl).trans h65) q65y)
  have hY := hY.alt (a := 76) (c := L76 0) (pe_eql ((up_ne rfl).trans ((hf 76 rfl).trans h76)) q76)
  have hY := hY.alt (a := 77) (c := L76 0) (pe_eql ((up_ne rfl).trans ((up_ne rfl).trans ((hf 77 rfl).trans h77))) q77)
  have hL : LV _ 0 0 := ⟨(up_ne rfl).trans ((up_ne rfl).trans ((up_ne rfl).trans (up_eq))), (up_ne rfl).trans ((up_ne rfl).trans ((up_ne rfl).trans ((hf 57 rfl).trans h57))), (up_ne rfl).trans ((up_ne rfl).trans ((up_ne rfl).trans ((hf 61 rfl).trans h61))), ⟨false, (up_ne rfl).trans ((up_ne rfl).trans ((up_ne rfl).trans ((hf 62 rfl).trans h62)))⟩, ⟨false, (up_ne rfl).trans ((up_ne rfl).trans up_eq)⟩, (up_ne rfl).trans up_eq, up_eq⟩
  obtain ⟨h56, -⟩ := id hL
  obtain ⟨h1, hca, V2, hY1, hL2⟩ := ll_29 (l := l) (D := D) (b0 := b0) (ad := ad) (Hb := Hb) (tau := tau) (b := n) (by omega) hY hL
  refine Jcallv0 (b := 56) hY (show mx_Sn _ _ 35 (mx_callv 271 2 12 38) from sn_276 35) rfl h56 hca rfl rfl ?_
  have hY := hY1
  obtain ⟨h56, h57, h61, -, -, h76, h77⟩ := hL2
  have h76 : V2 76 = .inr (.long, 385, mx_set 13 L0 0 (.long (pw n))) := h76
  refine mx_J.step (sn_276 38) (fun _ _ => rfl) ?_
  refine mx_J.step (sn_276 39) (fun _ _ => rfl) ?_
  refine mx_J.step (sn_276 40) (fun _ _ => rfl) ?_
  refine mx_J.step (sn_276 41) (fun _ _ => rfl) ?_
  refine mx_J.step (sn_276 43) (fun _ _ => rfl) ?_
  refine mx_J.step (sn_276 45) (fun _ _ => rfl) ?_
  refine Jgetf hY (show mx_Sn _ _ 46 (mx_getf 12 18 49) from sn_276 46) rfl h56 rfl ?_
  refine Jicmp_ge_f (show mx_Sn _ _ 49 (mx_icmp_ge 77 52) from sn_276 49) (by decide +kernel) ?_
  refine mx_J.step (sn_276 52) (fun _ _ => rfl) ?_
  refine mx_J.step (sn_276 53) (fun _ _ => rfl) ?_
  refine Jgetf hY (show mx_Sn _ _ 54 (mx_getf 12 35 57) from sn_276 54) rfl h56 rfl ?_
  refine mx_J.step (sn_276 57) (fun _ _ => rfl) ?_
  refine Jlald (i := 0) hY (show mx_Sn _ _ 59 (mx_lald 60) from sn_276 59) rfl h76 (by decide +kernel) (gs_eq (by decide)) ?_
  refine mx_J.step (sn_276 60) (fun _ _ => rfl) ?_
  refine mx_J.step (sn_276 61) (fun _ _ => rfl) ?_
  refine mx_J.step (sn_276 63) (fun _ _ => rfl) ?_
  obtain ⟨h1, hca, hY1⟩ := si_29 (l := l) (D := D) (b0 := b0) (ad := ad) (Hb := Hb) (tau := tau) hY h56 h61
  refine Jcallv (b := 56) hY (show mx_Sn _ _ 64 (mx_callv 190 3 12 67) from sn_276 64) rfl h56 hca rfl rfl ?_
  have hY := hY1
  refine mx_J.step (sn_276 67) (fun _ _ => rfl) ?_
  refine mx_J.step (sn_276 68) (fun _ _ => rfl) ?_
  refine mx_J.step (sn_276 69) (fun _ _ => rfl) ?_
  refine mx_J.step (sn_276 70) (fun _ _ => rfl) ?_
  refine mx_J.step (sn_276 71) (fun _ _ => rfl) ?_
  refine mx_J.step (sn_276 74) (fun _ _ => rfl) ?_
  refine mx_J.step (sn_276 43) (fun _ _ => rfl) ?_
  refine mx_J.step (sn_276 45) (fun _ _ => rfl) ?_
  refine Jgetf hY (show mx_Sn _ _ 46 (mx_getf 12 18 49) from sn_276 46) rfl h56 rfl ?_
  refine Jicmp_ge_t (show mx_Sn _ _ 49 (mx_icmp_ge 77 52) from sn_276 49) (by decide +kernel) ?_
  refine mx_J.step (sn_276 77) (fun _ _ => rfl) ?_
  refine mx_J.step (sn_276 78) (fun _ _ => rfl) ?_
  obtain ⟨h1, hca, hY1⟩ := wo_29 (l := l) (D := D) (b0 := b0) (ad := ad) (Hb := Hb) (tau := tau) hn hY
  refine Jcalls (show mx_Sn _ _ 79 (mx_calls 272 1 82) from sn_276 79) hca rfl rfl ?_
  have hY := hY1
  refine mx_J.step (sn_276 82) (fun _ _ => rfl) ?_
  obtain ⟨h1, hca, hY1⟩ := pm_29 (l := l) (D := D) (b0 := b0) (ad := ad) (Hb := Hb) (tau := tau) hn hw hY
  refine Jcalls (show mx_Sn _ _ 83 (mx_calls 274 3 86) from sn_276 83) hca rfl rfl ?_
  have hY := hY1
  exact mx_J.ret (sn_276 86) (fun _ _ => rfl) ⟨rfl, V2, hY⟩
end HW
