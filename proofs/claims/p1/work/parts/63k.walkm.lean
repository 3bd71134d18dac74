theorem pe57m {s mc y : Int32} : mx_pe (ar 2886 (mx_set 13 (mx_set 13 (mx_set 13 (mx_set 13 T57 28 (.int s)) 29 (.int mc)) 27 (.int 0)) 29 (.int y))) (A57 s y) := by
  refine Or.inr ⟨.int, 2886, _, _, rfl, rfl, fun j hj => ?_⟩
  have j1 : j < 2 ^ 13 := by show j < 8192; omega
  rw [mx_get_set _ 13 _ 29 j (by decide) j1, mx_get_set _ 13 _ 27 j (by decide) j1, mx_get_set _ 13 _ 29 j (by decide) j1, mx_get_set _ 13 _ 28 j (by decide) j1, mx_get_set _ 13 _ 29 j (by decide) j1, mx_get_set _ 13 _ 28 j (by decide) j1]
  by_cases a : j = 29
  · rw [if_pos a, if_pos a]
  · rw [if_neg a, if_neg a, if_neg a]
    by_cases b : j = 27
    · rw [if_pos b, if_neg (by omega), b]; exact g57.symm
    · rw [if_neg b]
theorem pe57s {s mc y : Int32} : mx_pe (ar 2886 (mx_set 13 (mx_set 13 (mx_set 13 T57 28 (.int s)) 29 (.int mc)) 28 (.int y))) (A57 y mc) := by
  refine Or.inr ⟨.int, 2886, _, _, rfl, rfl, fun j hj => ?_⟩
  have j1 : j < 2 ^ 13 := by show j < 8192; omega
  rw [mx_get_set _ 13 _ 28 j (by decide) j1, mx_get_set _ 13 _ 29 j (by decide) j1, mx_get_set _ 13 _ 28 j (by decide) j1, mx_get_set _ 13 _ 29 j (by decide) j1, mx_get_set _ 13 _ 28 j (by decide) j1]
  by_cases a : j = 29
  · rw [if_pos a, if_pos a, if_neg (by omega)]
  · rw [if_neg a, if_neg a]
    by_cases b : j = 28
    · rw [if_pos b, if_pos b]
    · rw [if_neg b, if_neg b, if_neg b]
theorem YH.alt {n s a : Nat} {V : Nat → mx_C} {h : mx_H} {c : mx_C} (hY : YH n s V h) (hp : mx_pe (V a) c) : YH n s (upV V a c) h := by
  refine hY.mono (fun k _ => ?_)
  show mx_pe (V k) (bif Nat.beq k a then c else V k)
  cases hb : Nat.beq k a with
  | false => exact Or.inl rfl
  | true => rw [Nat.eq_of_beq_eq_true hb]; exact hp
theorem e57_27 {s mc : Int32} : mx_get 13 (mx_set 13 (mx_set 13 T57 28 (.int s)) 29 (.int mc)) 27 = .int 0 := (gs_ne (by decide) (by decide) (by decide)).trans ((gs_ne (by decide) (by decide) (by decide)).trans g57)
theorem e57_28 {s mc : Int32} : mx_get 13 (mx_set 13 (mx_set 13 T57 28 (.int s)) 29 (.int mc)) 28 = .int s := (gs_ne (by decide) (by decide) (by decide)).trans (gs_eq (by decide))
theorem e57_29 {s mc : Int32} : mx_get 13 (mx_set 13 (mx_set 13 T57 28 (.int s)) 29 (.int mc)) 29 = .int mc := gs_eq (by decide)
theorem h62f : zc_62 = H62 false := by
  unfold H62
  rw [cond_false]
set_option maxRecDepth 1000000 in
theorem q57 : mx_pe zc_57 (A57 0 0) := (cq_ok (show cq zc_57 (A57 0 0) = true by decide +kernel)).1
set_option maxRecDepth 1000000 in
theorem q65z : mx_pe zc_65 (W65 false 0) := (cq_ok (show cq zc_65 (W65 false 0) = true by decide +kernel)).1
theorem PM.draw {V V2 : Nat → mx_C} {x y : Int32} (hM : PM V x) (hf : fr [56] V V2) (e : V2 56 = O56 y) : PM V2 y := by
  obtain ⟨s, mc, w, a, c, h56, h57, h61, h62, h65, h66⟩ := hM
  exact ⟨s, mc, w, a, c, e, (hf 57 rfl).trans h57, (hf 61 rfl).trans h61, (hf 62 rfl).trans h62, (hf 65 rfl).trans h65, (hf 66 rfl).trans h66⟩
theorem pm_56 {V : Nat → mx_C} {x : Int32} (hM : PM V x) : V 56 = O56 x := by
  obtain ⟨s, mc, w, a, c, h56, -⟩ := hM
  exact h56
section WM
variable {l : Launch} {D : va_G} {b0 : Nat} {ad : Nat → Nat} {Hb : Heap} {tau : Nat → Int64} {h : mx_H} {V : Nat → mx_C}
set_option maxHeartbeats 300000 in
set_option maxRecDepth 100000 in
theorem gm_0 {x : Int32} (hY : YH 84 62986 V h) (hM : PM V x) : ∃ h2, mx_Ca (tB l D b0 ad Hb tau) 28 205 [.ref 56, .int 0] h (none, h2) ∧ ∃ V2, YH 84 62986 V2 h2 ∧ PM V2 x := by
  obtain ⟨s, mc, w, a, c, h56, h57, h61, h62, h65, h66⟩ := hM
  have h57 : V 57 = ar 2886 (mx_set 13 (mx_set 13 T57 28 (.int s)) 29 (.int mc)) := h57
  refine Jm (M := (prog_14_method_53_code, 2, "TitheHeapModel", "goesMoon", (Option.none : Option Jvm.ClassFile.FieldType))) rfl rfl rfl rfl rfl ?_
  show mx_J _ _ _ 0 [some (.ref 56), some (.int 0)] [] h _
  refine mx_J.step (sn_205 0) (fun _ _ => rfl) ?_
  refine Jgetf hY (show mx_Sn _ _ 1 (mx_getf 12 1 4) from sn_205 1) rfl h56 rfl ?_
  refine mx_J.step (sn_205 4) (fun _ _ => rfl) ?_
  refine mx_J.step (sn_205 6) (fun _ _ => rfl) ?_
  refine mx_J.step (sn_205 7) (fun _ _ => rfl) ?_
  refine Jgetf hY (show mx_Sn _ _ 8 (mx_getf 12 1 11) from sn_205 8) rfl h56 rfl ?_
  refine mx_J.step (sn_205 11) (fun _ _ => rfl) ?_
  refine Jiald (i := 27) hY (show mx_Sn _ _ 13 (mx_iald 14) from sn_205 13) rfl h57 (by decide +kernel) (e57_27) ?_
  refine mx_J.step (sn_205 14) (fun _ _ => rfl) ?_
  refine mx_J.step (sn_205 15) (fun _ _ => rfl) ?_
  refine Jgetf hY (show mx_Sn _ _ 16 (mx_getf 12 1 19) from sn_205 16) rfl h56 rfl ?_
  refine mx_J.step (sn_205 19) (fun _ _ => rfl) ?_
  refine Jiald (i := 28) hY (show mx_Sn _ _ 21 (mx_iald 22) from sn_205 21) rfl h57 (by decide +kernel) (e57_28) ?_
  obtain ⟨h1, hca, hY1⟩ := mt_0 (l := l) (D := D) (b0 := b0) (ad := ad) (Hb := Hb) (tau := tau) hY h56 h57 h61 h62 h65
  refine Jcallv (b := 56) hY (show mx_Sn _ _ 22 (mx_callv 198 4 12 25) from sn_205 22) rfl h56 hca rfl rfl ?_
  have hY := hY1
  refine Jiast (i := 27) hY (show mx_Sn _ _ 25 (mx_iast 1 26) from sn_205 25) rfl rfl h57 (by decide +kernel) (by decide) (fun h hY => ?_)
  refine mx_J.step (sn_205 26) (fun _ _ => rfl) ?_
  refine Jgetf hY (show mx_Sn _ _ 27 (mx_getf 12 1 30) from sn_205 27) rfl h56 rfl ?_
  refine mx_J.step (sn_205 30) (fun _ _ => rfl) ?_
  refine mx_J.step (sn_205 32) (fun _ _ => rfl) ?_
  refine Jiald (i := 29) hY (show mx_Sn _ _ 33 (mx_iald 34) from sn_205 33) rfl rfl (by decide +kernel) ((gs_ne (by decide) (by decide) (by decide)).trans (e57_29)) ?_
  refine mx_J.step (sn_205 34) (fun _ _ => rfl) ?_
  refine mx_J.step (sn_205 35) (fun _ _ => rfl) ?_
  refine Jiast (i := 29) hY (show mx_Sn _ _ 36 (mx_iast 1 37) from sn_205 36) rfl rfl rfl (by decide +kernel) (by decide) (fun h hY => ?_)
  have hY := hY.re pe57m
  have hf := frY (l := [57, 62, 65]) hY (fr.up (fr.up (fr.up (fr.up fr.rfl' rfl) rfl) rfl) rfl)
  exact mx_J.ret (sn_205 37) (fun _ _ => rfl) ⟨rfl, _, hY, s, mc + 1, s, true, true, (hf 56 rfl).trans h56, up_eq, (hf 61 rfl).trans h61, (up_ne rfl).trans ((up_ne rfl).trans ((up_ne rfl).trans up_eq)), (up_ne rfl).trans ((up_ne rfl).trans up_eq), (hf 66 rfl).trans h66⟩
set_option maxHeartbeats 300000 in
set_option maxRecDepth 100000 in
theorem dz_0 {x : Int32} (hY : YH 84 62986 V h) (hM : PM V x) : ∃ h2, mx_Ca (tB l D b0 ad Hb tau) 29 218 [.ref 56, .int 0] h (none, h2) ∧ ∃ V2, YH 84 62986 V2 h2 ∧ PM V2 x := by
  refine Jm (M := (prog_14_method_66_code, 2, "TitheHeapModel", "does", (Option.none : Option Jvm.ClassFile.FieldType))) rfl rfl rfl rfl rfl ?_
  show mx_J _ _ _ 0 [some (.ref 56), some (.int 0)] [] h _
  refine mx_J.step (sn_218 0) (fun _ _ => rfl) ?_
  refine mx_J.step (sn_218 1) (fun _ _ => rfl) ?_
  refine Jicmp_gt_f (show mx_Sn _ _ 3 (mx_icmp_gt 14 6) from sn_218 3) (by decide +kernel) ?_
  refine mx_J.step (sn_218 6) (fun _ _ => rfl) ?_
  refine mx_J.step (sn_218 7) (fun _ _ => rfl) ?_
  obtain ⟨h1, hca, V2, hY1, hM2⟩ := gm_0 (l := l) (D := D) (b0 := b0) (ad := ad) (Hb := Hb) (tau := tau) hY hM
  refine Jcallv0 (b := 56) hY (show mx_Sn _ _ 8 (mx_callv 205 2 12 11) from sn_218 8) rfl (pm_56 hM) hca rfl rfl ?_
  have hY := hY1
  refine mx_J.step (sn_218 11) (fun _ _ => rfl) ?_
  exact mx_J.ret (sn_218 76) (fun _ _ => rfl) ⟨rfl, V2, hY, hM2⟩
set_option maxHeartbeats 300000 in
set_option maxRecDepth 100000 in
theorem gm_1 {x : Int32} (hY : YH 84 62986 V h) (hM : PM V x) : ∃ h2, mx_Ca (tB l D b0 ad Hb tau) 28 205 [.ref 56, .int 1] h (none, h2) ∧ ∃ V2, YH 84 62986 V2 h2 ∧ PM V2 x := by
  obtain ⟨s, mc, w, a, c, h56, h57, h61, h62, h65, h66⟩ := hM
  have h57 : V 57 = ar 2886 (mx_set 13 (mx_set 13 T57 28 (.int s)) 29 (.int mc)) := h57
  refine Jm (M := (prog_14_method_53_code, 2, "TitheHeapModel", "goesMoon", (Option.none : Option Jvm.ClassFile.FieldType))) rfl rfl rfl rfl rfl ?_
  show mx_J _ _ _ 0 [some (.ref 56), some (.int 1)] [] h _
  refine mx_J.step (sn_205 0) (fun _ _ => rfl) ?_
  refine Jgetf hY (show mx_Sn _ _ 1 (mx_getf 12 1 4) from sn_205 1) rfl h56 rfl ?_
  refine mx_J.step (sn_205 4) (fun _ _ => rfl) ?_
  refine mx_J.step (sn_205 6) (fun _ _ => rfl) ?_
  refine mx_J.step (sn_205 7) (fun _ _ => rfl) ?_
  refine Jgetf hY (show mx_Sn _ _ 8 (mx_getf 12 1 11) from sn_205 8) rfl h56 rfl ?_
  refine mx_J.step (sn_205 11) (fun _ _ => rfl) ?_
  refine Jiald (i := 27) hY (show mx_Sn _ _ 13 (mx_iald 14) from sn_205 13) rfl h57 (by decide +kernel) (e57_27) ?_
  refine mx_J.step (sn_205 14) (fun _ _ => rfl) ?_
  refine mx_J.step (sn_205 15) (fun _ _ => rfl) ?_
  refine Jgetf hY (show mx_Sn _ _ 16 (mx_getf 12 1 19) from sn_205 16) rfl h56 rfl ?_
  refine mx_J.step (sn_205 19) (fun _ _ => rfl) ?_
  refine Jiald (i := 28) hY (show mx_Sn _ _ 21 (mx_iald 22) from sn_205 21) rfl h57 (by decide +kernel) (e57_28) ?_
  obtain ⟨h1, hca, hY1⟩ := mt_1 (l := l) (D := D) (b0 := b0) (ad := ad) (Hb := Hb) (tau := tau) hY h56 h57 h61 h62 h65
  refine Jcallv (b := 56) hY (show mx_Sn _ _ 22 (mx_callv 198 4 12 25) from sn_205 22) rfl h56 hca rfl rfl ?_
  have hY := hY1
  refine Jiast (i := 27) hY (show mx_Sn _ _ 25 (mx_iast 1 26) from sn_205 25) rfl rfl h57 (by decide +kernel) (by decide) (fun h hY => ?_)
  refine mx_J.step (sn_205 26) (fun _ _ => rfl) ?_
  refine Jgetf hY (show mx_Sn _ _ 27 (mx_getf 12 1 30) from sn_205 27) rfl h56 rfl ?_
  refine mx_J.step (sn_205 30) (fun _ _ => rfl) ?_
  refine mx_J.step (sn_205 32) (fun _ _ => rfl) ?_
  refine Jiald (i := 29) hY (show mx_Sn _ _ 33 (mx_iald 34) from sn_205 33) rfl rfl (by decide +kernel) ((gs_ne (by decide) (by decide) (by decide)).trans (e57_29)) ?_
  refine mx_J.step (sn_205 34) (fun _ _ => rfl) ?_
  refine mx_J.step (sn_205 35) (fun _ _ => rfl) ?_
  refine Jiast (i := 29) hY (show mx_Sn _ _ 36 (mx_iast 1 37) from sn_205 36) rfl rfl rfl (by decide +kernel) (by decide) (fun h hY => ?_)
  have hY := hY.re pe57m
  have hf := frY (l := [57, 62, 65]) hY (fr.up (fr.up (fr.up (fr.up fr.rfl' rfl) rfl) rfl) rfl)
  exact mx_J.ret (sn_205 37) (fun _ _ => rfl) ⟨rfl, _, hY, s, mc + 1, w, true, c, (hf 56 rfl).trans h56, up_eq, (hf 61 rfl).trans h61, (up_ne rfl).trans ((up_ne rfl).trans ((up_ne rfl).trans up_eq)), (up_ne rfl).trans ((up_ne rfl).trans up_eq), (hf 66 rfl).trans h66⟩
set_option maxHeartbeats 300000 in
set_option maxRecDepth 100000 in
theorem dz_1 {x : Int32} (hY : YH 84 62986 V h) (hM : PM V x) : ∃ h2, mx_Ca (tB l D b0 ad Hb tau) 29 218 [.ref 56, .int 1] h (none, h2) ∧ ∃ V2, YH 84 62986 V2 h2 ∧ PM V2 x := by
  refine Jm (M := (prog_14_method_66_code, 2, "TitheHeapModel", "does", (Option.none : Option Jvm.ClassFile.FieldType))) rfl rfl rfl rfl rfl ?_
  show mx_J _ _ _ 0 [some (.ref 56), some (.int 1)] [] h _
  refine mx_J.step (sn_218 0) (fun _ _ => rfl) ?_
  refine mx_J.step (sn_218 1) (fun _ _ => rfl) ?_
  refine Jicmp_gt_f (show mx_Sn _ _ 3 (mx_icmp_gt 14 6) from sn_218 3) (by decide +kernel) ?_
  refine mx_J.step (sn_218 6) (fun _ _ => rfl) ?_
  refine mx_J.step (sn_218 7) (fun _ _ => rfl) ?_
  obtain ⟨h1, hca, V2, hY1, hM2⟩ := gm_1 (l := l) (D := D) (b0 := b0) (ad := ad) (Hb := Hb) (tau := tau) hY hM
  refine Jcallv0 (b := 56) hY (show mx_Sn _ _ 8 (mx_callv 205 2 12 11) from sn_218 8) rfl (pm_56 hM) hca rfl rfl ?_
  have hY := hY1
  refine mx_J.step (sn_218 11) (fun _ _ => rfl) ?_
  exact mx_J.ret (sn_218 76) (fun _ _ => rfl) ⟨rfl, V2, hY, hM2⟩
set_option maxHeartbeats 300000 in
set_option maxRecDepth 100000 in
theorem dz_20 {x : Int32} (hY : YH 84 62986 V h) (hM : PM V x) : ∃ h2, mx_Ca (tB l D b0 ad Hb tau) 29 218 [.ref 56, .int 20] h (none, h2) ∧ ∃ V2, YH 84 62986 V2 h2 ∧ PM V2 x := by
  obtain ⟨s, mc, w, a, c, h56, h57, h61, h62, h65, h66⟩ := hM
  have h57 : V 57 = ar 2886 (mx_set 13 (mx_set 13 T57 28 (.int s)) 29 (.int mc)) := h57
  refine Jm (M := (prog_14_method_66_code, 2, "TitheHeapModel", "does", (Option.none : Option Jvm.ClassFile.FieldType))) rfl rfl rfl rfl rfl ?_
  show mx_J _ _ _ 0 [some (.ref 56), some (.int 20)] [] h _
  refine mx_J.step (sn_218 0) (fun _ _ => rfl) ?_
  refine mx_J.step (sn_218 1) (fun _ _ => rfl) ?_
  refine Jicmp_gt_t (show mx_Sn _ _ 3 (mx_icmp_gt 14 6) from sn_218 3) (by decide +kernel) ?_
  refine mx_J.step (sn_218 14) (fun _ _ => rfl) ?_
  refine mx_J.step (sn_218 15) (fun _ _ => rfl) ?_
  refine Jicmp_ge_f (show mx_Sn _ _ 17 (mx_icmp_ge 34 20) from sn_218 17) (by decide +kernel) ?_
  refine mx_J.step (sn_218 20) (fun _ _ => rfl) ?_
  refine Jgetf hY (show mx_Sn _ _ 21 (mx_getf 12 1 24) from sn_218 21) rfl h56 rfl ?_
  refine mx_J.step (sn_218 24) (fun _ _ => rfl) ?_
  refine mx_J.step (sn_218 26) (fun _ _ => rfl) ?_
  refine mx_J.step (sn_218 27) (fun _ _ => rfl) ?_
  refine mx_J.step (sn_218 29) (fun _ _ => rfl) ?_
  refine Jiast (i := 28) hY (show mx_Sn _ _ 30 (mx_iast 1 31) from sn_218 30) rfl rfl h57 (by decide +kernel) (by decide) (fun h hY => ?_)
  refine mx_J.step (sn_218 31) (fun _ _ => rfl) ?_
  have hY := hY.re (pe57s (y := 20 - 20))
  have hf := frY (l := [57]) hY (fr.up fr.rfl' rfl)
  exact mx_J.ret (sn_218 76) (fun _ _ => rfl) ⟨rfl, _, hY, 20 - 20, mc, w, a, c, (hf 56 rfl).trans h56, up_eq, (hf 61 rfl).trans h61, (hf 62 rfl).trans h62, (hf 65 rfl).trans h65, (hf 66 rfl).trans h66⟩
set_option maxHeartbeats 300000 in
set_option maxRecDepth 100000 in
theorem dz_21 {x : Int32} (hY : YH 84 62986 V h) (hM : PM V x) : ∃ h2, mx_Ca (tB l D b0 ad Hb tau) 29 218 [.ref 56, .int 21] h (none, h2) ∧ ∃ V2, YH 84 62986 V2 h2 ∧ PM V2 x := by
  obtain ⟨s, mc, w, a, c, h56, h57, h61, h62, h65, h66⟩ := hM
  have h57 : V 57 = ar 2886 (mx_set 13 (mx_set 13 T57 28 (.int s)) 29 (.int mc)) := h57
  refine Jm (M := (prog_14_method_66_code, 2, "TitheHeapModel", "does", (Option.none : Option Jvm.ClassFile.FieldType))) rfl rfl rfl rfl rfl ?_
  show mx_J _ _ _ 0 [some (.ref 56), some (.int 21)] [] h _
  refine mx_J.step (sn_218 0) (fun _ _ => rfl) ?_
  refine mx_J.step (sn_218 1) (fun _ _ => rfl) ?_
  refine Jicmp_gt_t (show mx_Sn _ _ 3 (mx_icmp_gt 14 6) from sn_218 3) (by decide +kernel) ?_
  refine mx_J.step (sn_218 14) (fun _ _ => rfl) ?_
  refine mx_J.step (sn_218 15) (fun _ _ => rfl) ?_
  refine Jicmp_ge_f (show mx_Sn _ _ 17 (mx_icmp_ge 34 20) from sn_218 17) (by decide +kernel) ?_
  refine mx_J.step (sn_218 20) (fun _ _ => rfl) ?_
  refine Jgetf hY (show mx_Sn _ _ 21 (mx_getf 12 1 24) from sn_218 21) rfl h56 rfl ?_
  refine mx_J.step (sn_218 24) (fun _ _ => rfl) ?_
  refine mx_J.step (sn_218 26) (fun _ _ => rfl) ?_
  refine mx_J.step (sn_218 27) (fun _ _ => rfl) ?_
  refine mx_J.step (sn_218 29) (fun _ _ => rfl) ?_
  refine Jiast (i := 28) hY (show mx_Sn _ _ 30 (mx_iast 1 31) from sn_218 30) rfl rfl h57 (by decide +kernel) (by decide) (fun h hY => ?_)
  refine mx_J.step (sn_218 31) (fun _ _ => rfl) ?_
  have hY := hY.re (pe57s (y := 21 - 20))
  have hf := frY (l := [57]) hY (fr.up fr.rfl' rfl)
  exact mx_J.ret (sn_218 76) (fun _ _ => rfl) ⟨rfl, _, hY, 21 - 20, mc, w, a, c, (hf 56 rfl).trans h56, up_eq, (hf 61 rfl).trans h61, (hf 62 rfl).trans h62, (hf 65 rfl).trans h65, (hf 66 rfl).trans h66⟩
set_option maxHeartbeats 300000 in
set_option maxRecDepth 100000 in
theorem dz_22 {x : Int32} (hY : YH 84 62986 V h) (hM : PM V x) : ∃ h2, mx_Ca (tB l D b0 ad Hb tau) 29 218 [.ref 56, .int 22] h (none, h2) ∧ ∃ V2, YH 84 62986 V2 h2 ∧ PM V2 x := by
  obtain ⟨s, mc, w, a, c, h56, h57, h61, h62, h65, h66⟩ := hM
  have h57 : V 57 = ar 2886 (mx_set 13 (mx_set 13 T57 28 (.int s)) 29 (.int mc)) := h57
  refine Jm (M := (prog_14_method_66_code, 2, "TitheHeapModel", "does", (Option.none : Option Jvm.ClassFile.FieldType))) rfl rfl rfl rfl rfl ?_
  show mx_J _ _ _ 0 [some (.ref 56), some (.int 22)] [] h _
  refine mx_J.step (sn_218 0) (fun _ _ => rfl) ?_
  refine mx_J.step (sn_218 1) (fun _ _ => rfl) ?_
  refine Jicmp_gt_t (show mx_Sn _ _ 3 (mx_icmp_gt 14 6) from sn_218 3) (by decide +kernel) ?_
  refine mx_J.step (sn_218 14) (fun _ _ => rfl) ?_
  refine mx_J.step (sn_218 15) (fun _ _ => rfl) ?_
  refine Jicmp_ge_f (show mx_Sn _ _ 17 (mx_icmp_ge 34 20) from sn_218 17) (by decide +kernel) ?_
  refine mx_J.step (sn_218 20) (fun _ _ => rfl) ?_
  refine Jgetf hY (show mx_Sn _ _ 21 (mx_getf 12 1 24) from sn_218 21) rfl h56 rfl ?_
  refine mx_J.step (sn_218 24) (fun _ _ => rfl) ?_
  refine mx_J.step (sn_218 26) (fun _ _ => rfl) ?_
  refine mx_J.step (sn_218 27) (fun _ _ => rfl) ?_
  refine mx_J.step (sn_218 29) (fun _ _ => rfl) ?_
  refine Jiast (i := 28) hY (show mx_Sn _ _ 30 (mx_iast 1 31) from sn_218 30) rfl rfl h57 (by decide +kernel) (by decide) (fun h hY => ?_)
  refine mx_J.step (sn_218 31) (fun _ _ => rfl) ?_
  have hY := hY.re (pe57s (y := 22 - 20))
  have hf := frY (l := [57]) hY (fr.up fr.rfl' rfl)
  exact mx_J.ret (sn_218 76) (fun _ _ => rfl) ⟨rfl, _, hY, 22 - 20, mc, w, a, c, (hf 56 rfl).trans h56, up_eq, (hf 61 rfl).trans h61, (hf 62 rfl).trans h62, (hf 65 rfl).trans h65, (hf 66 rfl).trans h66⟩
set_option maxHeartbeats 300000 in
set_option maxRecDepth 100000 in
theorem dz_23 {x : Int32} (hY : YH 84 62986 V h) (hM : PM V x) : ∃ h2, mx_Ca (tB l D b0 ad Hb tau) 29 218 [.ref 56, .int 23] h (none, h2) ∧ ∃ V2, YH 84 62986 V2 h2 ∧ PM V2 x := by
  obtain ⟨s, mc, w, a, c, h56, h57, h61, h62, h65, h66⟩ := hM
  have h57 : V 57 = ar 2886 (mx_set 13 (mx_set 13 T57 28 (.int s)) 29 (.int mc)) := h57
  refine Jm (M := (prog_14_method_66_code, 2, "TitheHeapModel", "does", (Option.none : Option Jvm.ClassFile.FieldType))) rfl rfl rfl rfl rfl ?_
  show mx_J _ _ _ 0 [some (.ref 56), some (.int 23)] [] h _
  refine mx_J.step (sn_218 0) (fun _ _ => rfl) ?_
  refine mx_J.step (sn_218 1) (fun _ _ => rfl) ?_
  refine Jicmp_gt_t (show mx_Sn _ _ 3 (mx_icmp_gt 14 6) from sn_218 3) (by decide +kernel) ?_
  refine mx_J.step (sn_218 14) (fun _ _ => rfl) ?_
  refine mx_J.step (sn_218 15) (fun _ _ => rfl) ?_
  refine Jicmp_ge_f (show mx_Sn _ _ 17 (mx_icmp_ge 34 20) from sn_218 17) (by decide +kernel) ?_
  refine mx_J.step (sn_218 20) (fun _ _ => rfl) ?_
  refine Jgetf hY (show mx_Sn _ _ 21 (mx_getf 12 1 24) from sn_218 21) rfl h56 rfl ?_
  refine mx_J.step (sn_218 24) (fun _ _ => rfl) ?_
  refine mx_J.step (sn_218 26) (fun _ _ => rfl) ?_
  refine mx_J.step (sn_218 27) (fun _ _ => rfl) ?_
  refine mx_J.step (sn_218 29) (fun _ _ => rfl) ?_
  refine Jiast (i := 28) hY (show mx_Sn _ _ 30 (mx_iast 1 31) from sn_218 30) rfl rfl h57 (by decide +kernel) (by decide) (fun h hY => ?_)
  refine mx_J.step (sn_218 31) (fun _ _ => rfl) ?_
  have hY := hY.re (pe57s (y := 23 - 20))
  have hf := frY (l := [57]) hY (fr.up fr.rfl' rfl)
  exact mx_J.ret (sn_218 76) (fun _ _ => rfl) ⟨rfl, _, hY, 23 - 20, mc, w, a, c, (hf 56 rfl).trans h56, up_eq, (hf 61 rfl).trans h61, (hf 62 rfl).trans h62, (hf 65 rfl).trans h65, (hf 66 rfl).trans h66⟩
set_option maxHeartbeats 300000 in
set_option maxRecDepth 100000 in
theorem dz_24 {x : Int32} (hY : YH 84 62986 V h) (hM : PM V x) : ∃ h2, mx_Ca (tB l D b0 ad Hb tau) 29 218 [.ref 56, .int 24] h (none, h2) ∧ ∃ V2, YH 84 62986 V2 h2 ∧ PM V2 x := by
  obtain ⟨s, mc, w, a, c, h56, h57, h61, h62, h65, h66⟩ := hM
  have h57 : V 57 = ar 2886 (mx_set 13 (mx_set 13 T57 28 (.int s)) 29 (.int mc)) := h57
  refine Jm (M := (prog_14_method_66_code, 2, "TitheHeapModel", "does", (Option.none : Option Jvm.ClassFile.FieldType))) rfl rfl rfl rfl rfl ?_
  show mx_J _ _ _ 0 [some (.ref 56), some (.int 24)] [] h _
  refine mx_J.step (sn_218 0) (fun _ _ => rfl) ?_
  refine mx_J.step (sn_218 1) (fun _ _ => rfl) ?_
  refine Jicmp_gt_t (show mx_Sn _ _ 3 (mx_icmp_gt 14 6) from sn_218 3) (by decide +kernel) ?_
  refine mx_J.step (sn_218 14) (fun _ _ => rfl) ?_
  refine mx_J.step (sn_218 15) (fun _ _ => rfl) ?_
  refine Jicmp_ge_f (show mx_Sn _ _ 17 (mx_icmp_ge 34 20) from sn_218 17) (by decide +kernel) ?_
  refine mx_J.step (sn_218 20) (fun _ _ => rfl) ?_
  refine Jgetf hY (show mx_Sn _ _ 21 (mx_getf 12 1 24) from sn_218 21) rfl h56 rfl ?_
  refine mx_J.step (sn_218 24) (fun _ _ => rfl) ?_
  refine mx_J.step (sn_218 26) (fun _ _ => rfl) ?_
  refine mx_J.step (sn_218 27) (fun _ _ => rfl) ?_
  refine mx_J.step (sn_218 29) (fun _ _ => rfl) ?_
  refine Jiast (i := 28) hY (show mx_Sn _ _ 30 (mx_iast 1 31) from sn_218 30) rfl rfl h57 (by decide +kernel) (by decide) (fun h hY => ?_)
  refine mx_J.step (sn_218 31) (fun _ _ => rfl) ?_
  have hY := hY.re (pe57s (y := 24 - 20))
  have hf := frY (l := [57]) hY (fr.up fr.rfl' rfl)
  exact mx_J.ret (sn_218 76) (fun _ _ => rfl) ⟨rfl, _, hY, 24 - 20, mc, w, a, c, (hf 56 rfl).trans h56, up_eq, (hf 61 rfl).trans h61, (hf 62 rfl).trans h62, (hf 65 rfl).trans h65, (hf 66 rfl).trans h66⟩
set_option maxHeartbeats 300000 in
set_option maxRecDepth 100000 in
theorem dz_25 {x : Int32} (hY : YH 84 62986 V h) (hM : PM V x) : ∃ h2, mx_Ca (tB l D b0 ad Hb tau) 29 218 [.ref 56, .int 25] h (none, h2) ∧ ∃ V2, YH 84 62986 V2 h2 ∧ PM V2 x := by
  obtain ⟨s, mc, w, a, c, h56, h57, h61, h62, h65, h66⟩ := hM
  have h57 : V 57 = ar 2886 (mx_set 13 (mx_set 13 T57 28 (.int s)) 29 (.int mc)) := h57
  refine Jm (M := (prog_14_method_66_code, 2, "TitheHeapModel", "does", (Option.none : Option Jvm.ClassFile.FieldType))) rfl rfl rfl rfl rfl ?_
  show mx_J _ _ _ 0 [some (.ref 56), some (.int 25)] [] h _
  refine mx_J.step (sn_218 0) (fun _ _ => rfl) ?_
  refine mx_J.step (sn_218 1) (fun _ _ => rfl) ?_
  refine Jicmp_gt_t (show mx_Sn _ _ 3 (mx_icmp_gt 14 6) from sn_218 3) (by decide +kernel) ?_
  refine mx_J.step (sn_218 14) (fun _ _ => rfl) ?_
  refine mx_J.step (sn_218 15) (fun _ _ => rfl) ?_
  refine Jicmp_ge_f (show mx_Sn _ _ 17 (mx_icmp_ge 34 20) from sn_218 17) (by decide +kernel) ?_
  refine mx_J.step (sn_218 20) (fun _ _ => rfl) ?_
  refine Jgetf hY (show mx_Sn _ _ 21 (mx_getf 12 1 24) from sn_218 21) rfl h56 rfl ?_
  refine mx_J.step (sn_218 24) (fun _ _ => rfl) ?_
  refine mx_J.step (sn_218 26) (fun _ _ => rfl) ?_
  refine mx_J.step (sn_218 27) (fun _ _ => rfl) ?_
  refine mx_J.step (sn_218 29) (fun _ _ => rfl) ?_
  refine Jiast (i := 28) hY (show mx_Sn _ _ 30 (mx_iast 1 31) from sn_218 30) rfl rfl h57 (by decide +kernel) (by decide) (fun h hY => ?_)
  refine mx_J.step (sn_218 31) (fun _ _ => rfl) ?_
  have hY := hY.re (pe57s (y := 25 - 20))
  have hf := frY (l := [57]) hY (fr.up fr.rfl' rfl)
  exact mx_J.ret (sn_218 76) (fun _ _ => rfl) ⟨rfl, _, hY, 25 - 20, mc, w, a, c, (hf 56 rfl).trans h56, up_eq, (hf 61 rfl).trans h61, (hf 62 rfl).trans h62, (hf 65 rfl).trans h65, (hf 66 rfl).trans h66⟩
set_option maxHeartbeats 300000 in
set_option maxRecDepth 100000 in
theorem dz_26 {x : Int32} (hY : YH 84 62986 V h) (hM : PM V x) : ∃ h2, mx_Ca (tB l D b0 ad Hb tau) 29 218 [.ref 56, .int 26] h (none, h2) ∧ ∃ V2, YH 84 62986 V2 h2 ∧ PM V2 x := by
  obtain ⟨s, mc, w, a, c, h56, h57, h61, h62, h65, h66⟩ := hM
  have h57 : V 57 = ar 2886 (mx_set 13 (mx_set 13 T57 28 (.int s)) 29 (.int mc)) := h57
  refine Jm (M := (prog_14_method_66_code, 2, "TitheHeapModel", "does", (Option.none : Option Jvm.ClassFile.FieldType))) rfl rfl rfl rfl rfl ?_
  show mx_J _ _ _ 0 [some (.ref 56), some (.int 26)] [] h _
  refine mx_J.step (sn_218 0) (fun _ _ => rfl) ?_
  refine mx_J.step (sn_218 1) (fun _ _ => rfl) ?_
  refine Jicmp_gt_t (show mx_Sn _ _ 3 (mx_icmp_gt 14 6) from sn_218 3) (by decide +kernel) ?_
  refine mx_J.step (sn_218 14) (fun _ _ => rfl) ?_
  refine mx_J.step (sn_218 15) (fun _ _ => rfl) ?_
  refine Jicmp_ge_f (show mx_Sn _ _ 17 (mx_icmp_ge 34 20) from sn_218 17) (by decide +kernel) ?_
  refine mx_J.step (sn_218 20) (fun _ _ => rfl) ?_
  refine Jgetf hY (show mx_Sn _ _ 21 (mx_getf 12 1 24) from sn_218 21) rfl h56 rfl ?_
  refine mx_J.step (sn_218 24) (fun _ _ => rfl) ?_
  refine mx_J.step (sn_218 26) (fun _ _ => rfl) ?_
  refine mx_J.step (sn_218 27) (fun _ _ => rfl) ?_
  refine mx_J.step (sn_218 29) (fun _ _ => rfl) ?_
  refine Jiast (i := 28) hY (show mx_Sn _ _ 30 (mx_iast 1 31) from sn_218 30) rfl rfl h57 (by decide +kernel) (by decide) (fun h hY => ?_)
  refine mx_J.step (sn_218 31) (fun _ _ => rfl) ?_
  have hY := hY.re (pe57s (y := 26 - 20))
  have hf := frY (l := [57]) hY (fr.up fr.rfl' rfl)
  exact mx_J.ret (sn_218 76) (fun _ _ => rfl) ⟨rfl, _, hY, 26 - 20, mc, w, a, c, (hf 56 rfl).trans h56, up_eq, (hf 61 rfl).trans h61, (hf 62 rfl).trans h62, (hf 65 rfl).trans h65, (hf 66 rfl).trans h66⟩
set_option maxHeartbeats 300000 in
set_option maxRecDepth 100000 in
theorem dz_27 {x : Int32} (hY : YH 84 62986 V h) (hM : PM V x) : ∃ h2, mx_Ca (tB l D b0 ad Hb tau) 29 218 [.ref 56, .int 27] h (none, h2) ∧ ∃ V2, YH 84 62986 V2 h2 ∧ PM V2 x := by
  obtain ⟨s, mc, w, a, c, h56, h57, h61, h62, h65, h66⟩ := hM
  have h57 : V 57 = ar 2886 (mx_set 13 (mx_set 13 T57 28 (.int s)) 29 (.int mc)) := h57
  refine Jm (M := (prog_14_method_66_code, 2, "TitheHeapModel", "does", (Option.none : Option Jvm.ClassFile.FieldType))) rfl rfl rfl rfl rfl ?_
  show mx_J _ _ _ 0 [some (.ref 56), some (.int 27)] [] h _
  refine mx_J.step (sn_218 0) (fun _ _ => rfl) ?_
  refine mx_J.step (sn_218 1) (fun _ _ => rfl) ?_
  refine Jicmp_gt_t (show mx_Sn _ _ 3 (mx_icmp_gt 14 6) from sn_218 3) (by decide +kernel) ?_
  refine mx_J.step (sn_218 14) (fun _ _ => rfl) ?_
  refine mx_J.step (sn_218 15) (fun _ _ => rfl) ?_
  refine Jicmp_ge_f (show mx_Sn _ _ 17 (mx_icmp_ge 34 20) from sn_218 17) (by decide +kernel) ?_
  refine mx_J.step (sn_218 20) (fun _ _ => rfl) ?_
  refine Jgetf hY (show mx_Sn _ _ 21 (mx_getf 12 1 24) from sn_218 21) rfl h56 rfl ?_
  refine mx_J.step (sn_218 24) (fun _ _ => rfl) ?_
  refine mx_J.step (sn_218 26) (fun _ _ => rfl) ?_
  refine mx_J.step (sn_218 27) (fun _ _ => rfl) ?_
  refine mx_J.step (sn_218 29) (fun _ _ => rfl) ?_
  refine Jiast (i := 28) hY (show mx_Sn _ _ 30 (mx_iast 1 31) from sn_218 30) rfl rfl h57 (by decide +kernel) (by decide) (fun h hY => ?_)
  refine mx_J.step (sn_218 31) (fun _ _ => rfl) ?_
  have hY := hY.re (pe57s (y := 27 - 20))
  have hf := frY (l := [57]) hY (fr.up fr.rfl' rfl)
  exact mx_J.ret (sn_218 76) (fun _ _ => rfl) ⟨rfl, _, hY, 27 - 20, mc, w, a, c, (hf 56 rfl).trans h56, up_eq, (hf 61 rfl).trans h61, (hf 62 rfl).trans h62, (hf 65 rfl).trans h65, (hf 66 rfl).trans h66⟩
set_option maxHeartbeats 300000 in
set_option maxRecDepth 100000 in
theorem dz_28 {x : Int32} (hY : YH 84 62986 V h) (hM : PM V x) : ∃ h2, mx_Ca (tB l D b0 ad Hb tau) 29 218 [.ref 56, .int 28] h (none, h2) ∧ ∃ V2, YH 84 62986 V2 h2 ∧ PM V2 x := by
  obtain ⟨s, mc, w, a, c, h56, h57, h61, h62, h65, h66⟩ := hM
  have h57 : V 57 = ar 2886 (mx_set 13 (mx_set 13 T57 28 (.int s)) 29 (.int mc)) := h57
  refine Jm (M := (prog_14_method_66_code, 2, "TitheHeapModel", "does", (Option.none : Option Jvm.ClassFile.FieldType))) rfl rfl rfl rfl rfl ?_
  show mx_J _ _ _ 0 [some (.ref 56), some (.int 28)] [] h _
  refine mx_J.step (sn_218 0) (fun _ _ => rfl) ?_
  refine mx_J.step (sn_218 1) (fun _ _ => rfl) ?_
  refine Jicmp_gt_t (show mx_Sn _ _ 3 (mx_icmp_gt 14 6) from sn_218 3) (by decide +kernel) ?_
  refine mx_J.step (sn_218 14) (fun _ _ => rfl) ?_
  refine mx_J.step (sn_218 15) (fun _ _ => rfl) ?_
  refine Jicmp_ge_f (show mx_Sn _ _ 17 (mx_icmp_ge 34 20) from sn_218 17) (by decide +kernel) ?_
  refine mx_J.step (sn_218 20) (fun _ _ => rfl) ?_
  refine Jgetf hY (show mx_Sn _ _ 21 (mx_getf 12 1 24) from sn_218 21) rfl h56 rfl ?_
  refine mx_J.step (sn_218 24) (fun _ _ => rfl) ?_
  refine mx_J.step (sn_218 26) (fun _ _ => rfl) ?_
  refine mx_J.step (sn_218 27) (fun _ _ => rfl) ?_
  refine mx_J.step (sn_218 29) (fun _ _ => rfl) ?_
  refine Jiast (i := 28) hY (show mx_Sn _ _ 30 (mx_iast 1 31) from sn_218 30) rfl rfl h57 (by decide +kernel) (by decide) (fun h hY => ?_)
  refine mx_J.step (sn_218 31) (fun _ _ => rfl) ?_
  have hY := hY.re (pe57s (y := 28 - 20))
  have hf := frY (l := [57]) hY (fr.up fr.rfl' rfl)
  exact mx_J.ret (sn_218 76) (fun _ _ => rfl) ⟨rfl, _, hY, 28 - 20, mc, w, a, c, (hf 56 rfl).trans h56, up_eq, (hf 61 rfl).trans h61, (hf 62 rfl).trans h62, (hf 65 rfl).trans h65, (hf 66 rfl).trans h66⟩
set_option maxHeartbeats 300000 in
set_option maxRecDepth 100000 in
theorem dz_29 {x : Int32} (hY : YH 84 62986 V h) (hM : PM V x) : ∃ h2, mx_Ca (tB l D b0 ad Hb tau) 29 218 [.ref 56, .int 29] h (none, h2) ∧ ∃ V2, YH 84 62986 V2 h2 ∧ PM V2 x := by
  obtain ⟨s, mc, w, a, c, h56, h57, h61, h62, h65, h66⟩ := hM
  have h57 : V 57 = ar 2886 (mx_set 13 (mx_set 13 T57 28 (.int s)) 29 (.int mc)) := h57
  refine Jm (M := (prog_14_method_66_code, 2, "TitheHeapModel", "does", (Option.none : Option Jvm.ClassFile.FieldType))) rfl rfl rfl rfl rfl ?_
  show mx_J _ _ _ 0 [some (.ref 56), some (.int 29)] [] h _
  refine mx_J.step (sn_218 0) (fun _ _ => rfl) ?_
  refine mx_J.step (sn_218 1) (fun _ _ => rfl) ?_
  refine Jicmp_gt_t (show mx_Sn _ _ 3 (mx_icmp_gt 14 6) from sn_218 3) (by decide +kernel) ?_
  refine mx_J.step (sn_218 14) (fun _ _ => rfl) ?_
  refine mx_J.step (sn_218 15) (fun _ _ => rfl) ?_
  refine Jicmp_ge_f (show mx_Sn _ _ 17 (mx_icmp_ge 34 20) from sn_218 17) (by decide +kernel) ?_
  refine mx_J.step (sn_218 20) (fun _ _ => rfl) ?_
  refine Jgetf hY (show mx_Sn _ _ 21 (mx_getf 12 1 24) from sn_218 21) rfl h56 rfl ?_
  refine mx_J.step (sn_218 24) (fun _ _ => rfl) ?_
  refine mx_J.step (sn_218 26) (fun _ _ => rfl) ?_
  refine mx_J.step (sn_218 27) (fun _ _ => rfl) ?_
  refine mx_J.step (sn_218 29) (fun _ _ => rfl) ?_
  refine Jiast (i := 28) hY (show mx_Sn _ _ 30 (mx_iast 1 31) from sn_218 30) rfl rfl h57 (by decide +kernel) (by decide) (fun h hY => ?_)
  refine mx_J.step (sn_218 31) (fun _ _ => rfl) ?_
  have hY := hY.re (pe57s (y := 29 - 20))
  have hf := frY (l := [57]) hY (fr.up fr.rfl' rfl)
  exact mx_J.ret (sn_218 76) (fun _ _ => rfl) ⟨rfl, _, hY, 29 - 20, mc, w, a, c, (hf 56 rfl).trans h56, up_eq, (hf 61 rfl).trans h61, (hf 62 rfl).trans h62, (hf 65 rfl).trans h65, (hf 66 rfl).trans h66⟩
theorem dz_all {x v : Int32} (hY : YH 84 62986 V h) (hM : PM V x) (hv : v ∈ DL) (hc : can v = true) : ∃ h2, mx_Ca (tB l D b0 ad Hb tau) 29 218 [.ref 56, .int v] h (none, h2) ∧ ∃ V2, YH 84 62986 V2 h2 ∧ PM V2 x := by
  rcases List.mem_cons.mp hv with e | hv
  · rw [e] at hc ⊢; exact dz_0 hY hM
  rcases List.mem_cons.mp hv with e | hv
  · rw [e] at hc ⊢; exact dz_1 hY hM
  rcases List.mem_cons.mp hv with e | hv
  · rw [e] at hc ⊢; exact absurd hc (by decide +kernel)
  rcases List.mem_cons.mp hv with e | hv
  · rw [e] at hc ⊢; exact absurd hc (by decide +kernel)
  rcases List.mem_cons.mp hv with e | hv
  · rw [e] at hc ⊢; exact absurd hc (by decide +kernel)
  rcases List.mem_cons.mp hv with e | hv
  · rw [e] at hc ⊢; exact absurd hc (by decide +kernel)
  rcases List.mem_cons.mp hv with e | hv
  · rw [e] at hc ⊢; exact absurd hc (by decide +kernel)
  rcases List.mem_cons.mp hv with e | hv
  · rw [e] at hc ⊢; exact absurd hc (by decide +kernel)
  rcases List.mem_cons.mp hv with e | hv
  · rw [e] at hc ⊢; exact dz_20 hY hM
  rcases List.mem_cons.mp hv with e | hv
  · rw [e] at hc ⊢; exact dz_21 hY hM
  rcases List.mem_cons.mp hv with e | hv
  · rw [e] at hc ⊢; exact dz_22 hY hM
  rcases List.mem_cons.mp hv with e | hv
  · rw [e] at hc ⊢; exact dz_23 hY hM
  rcases List.mem_cons.mp hv with e | hv
  · rw [e] at hc ⊢; exact dz_24 hY hM
  rcases List.mem_cons.mp hv with e | hv
  · rw [e] at hc ⊢; exact dz_25 hY hM
  rcases List.mem_cons.mp hv with e | hv
  · rw [e] at hc ⊢; exact dz_26 hY hM
  rcases List.mem_cons.mp hv with e | hv
  · rw [e] at hc ⊢; exact dz_27 hY hM
  rcases List.mem_cons.mp hv with e | hv
  · rw [e] at hc ⊢; exact dz_28 hY hM
  rcases List.mem_cons.mp hv with e | hv
  · rw [e] at hc ⊢; exact dz_29 hY hM
  rcases List.mem_cons.mp hv with e | hv
  · rw [e] at hc ⊢; exact absurd hc (by decide +kernel)
  rcases List.mem_cons.mp hv with e | hv
  · rw [e] at hc ⊢; exact absurd hc (by decide +kernel)
  rcases List.mem_cons.mp hv with e | hv
  · rw [e] at hc ⊢; exact absurd hc (by decide +kernel)
  rcases List.mem_cons.mp hv with e | hv
  · rw [e] at hc ⊢; exact absurd hc (by decide +kernel)
  rcases List.mem_cons.mp hv with e | hv
  · rw [e] at hc ⊢; exact absurd hc (by decide +kernel)
  rcases List.mem_cons.mp hv with e | hv
  · rw [e] at hc ⊢; exact absurd hc (by decide +kernel)
  rcases List.mem_cons.mp hv with e | hv
  · rw [e] at hc ⊢; exact absurd hc (by decide +kernel)
  rcases List.mem_cons.mp hv with e | hv
  · rw [e] at hc ⊢; exact absurd hc (by decide +kernel)
  rcases List.mem_cons.mp hv with e | hv
  · rw [e] at hc ⊢; exact absurd hc (by decide +kernel)
  rcases List.mem_cons.mp hv with e | hv
  · rw [e] at hc ⊢; exact absurd hc (by decide +kernel)
  rcases List.mem_cons.mp hv with e | hv
  · rw [e] at hc ⊢; exact absurd hc (by decide +kernel)
  rcases List.mem_cons.mp hv with e | hv
  · rw [e] at hc ⊢; exact absurd hc (by decide +kernel)
  rcases List.mem_cons.mp hv with e | hv
  · rw [e] at hc ⊢; exact absurd hc (by decide +kernel)
  rcases List.mem_cons.mp hv with e | hv
  · rw [e] at hc ⊢; exact absurd hc (by decide +kernel)
  rcases List.mem_cons.mp hv with e | hv
  · rw [e] at hc ⊢; exact absurd hc (by decide +kernel)
  rcases List.mem_cons.mp hv with e | hv
  · rw [e] at hc ⊢; exact absurd hc (by decide +kernel)
  rcases List.mem_cons.mp hv with e | hv
  · rw [e] at hc ⊢; exact absurd hc (by decide +kernel)
  rcases List.mem_cons.mp hv with e | hv
  · rw [e] at hc ⊢; exact absurd hc (by decide +kernel)
  rcases List.mem_cons.mp hv with e | hv
  · rw [e] at hc ⊢; exact absurd hc (by decide +kernel)
  rcases List.mem_cons.mp hv with e | hv
  · rw [e] at hc ⊢; exact absurd hc (by decide +kernel)
  rcases List.mem_cons.mp hv with e | hv
  · rw [e] at hc ⊢; exact absurd hc (by decide +kernel)
  rcases List.mem_cons.mp hv with e | hv
  · rw [e] at hc ⊢; exact absurd hc (by decide +kernel)
  rcases List.mem_cons.mp hv with e | hv
  · rw [e] at hc ⊢; exact absurd hc (by decide +kernel)
  rcases List.mem_cons.mp hv with e | hv
  · rw [e] at hc ⊢; exact absurd hc (by decide +kernel)
  rcases List.mem_cons.mp hv with e | hv
  · rw [e] at hc ⊢; exact absurd hc (by decide +kernel)
  rcases List.mem_cons.mp hv with e | hv
  · rw [e] at hc ⊢; exact absurd hc (by decide +kernel)
  rcases List.mem_cons.mp hv with e | hv
  · rw [e] at hc ⊢; exact absurd hc (by decide +kernel)
  rcases List.mem_cons.mp hv with e | hv
  · rw [e] at hc ⊢; exact absurd hc (by decide +kernel)
  rcases List.mem_cons.mp hv with e | hv
  · rw [e] at hc ⊢; exact absurd hc (by decide +kernel)
  rcases List.mem_cons.mp hv with e | hv
  · rw [e] at hc ⊢; exact absurd hc (by decide +kernel)
  rcases List.mem_cons.mp hv with e | hv
  · rw [e] at hc ⊢; exact absurd hc (by decide +kernel)
  rcases List.mem_cons.mp hv with e | hv
  · rw [e] at hc ⊢; exact absurd hc (by decide +kernel)
  rcases List.mem_cons.mp hv with e | hv
  · rw [e] at hc ⊢; exact absurd hc (by decide +kernel)
  rcases List.mem_cons.mp hv with e | hv
  · rw [e] at hc ⊢; exact absurd hc (by decide +kernel)
  rcases List.mem_cons.mp hv with e | hv
  · rw [e] at hc ⊢; exact absurd hc (by decide +kernel)
  rcases List.mem_cons.mp hv with e | hv
  · rw [e] at hc ⊢; exact absurd hc (by decide +kernel)
  cases hv
theorem wn_all {x v : Int32} (hY : YH 84 62986 V h) (hM : PM V x) (hv : v ∈ DL) : ∃ h2 w, mx_Ca (tB l D b0 ad Hb tau) 29 217 [.ref 56, .long v.toInt64] h (some (.int w), h2) ∧ (w = 0 ↔ can v = true) ∧ YH 84 62986 V h2 := by
  obtain ⟨s, mc, w, a, c, h56, h57, h61, h62, h65, h66⟩ := hM
  rcases List.mem_cons.mp hv with e | hv
  · rw [e, show ((0 : Int32)).toInt64 = 0 by decide +kernel]; obtain ⟨h2, hca, hY2⟩ := wn_0 (l := l) (D := D) (b0 := b0) (ad := ad) (Hb := Hb) (tau := tau) hY h56 h57 h61; exact ⟨h2, _, hca, by decide +kernel, hY2⟩
  rcases List.mem_cons.mp hv with e | hv
  · rw [e, show ((1 : Int32)).toInt64 = 1 by decide +kernel]; obtain ⟨h2, hca, hY2⟩ := wn_1 (l := l) (D := D) (b0 := b0) (ad := ad) (Hb := Hb) (tau := tau) hY h56 h57 h61; exact ⟨h2, _, hca, by decide +kernel, hY2⟩
  rcases List.mem_cons.mp hv with e | hv
  · rw [e, show ((2 : Int32)).toInt64 = 2 by decide +kernel]; obtain ⟨h2, hca, hY2⟩ := wn_2 (l := l) (D := D) (b0 := b0) (ad := ad) (Hb := Hb) (tau := tau) hY h56 h57 h61; exact ⟨h2, _, hca, by decide +kernel, hY2⟩
  rcases List.mem_cons.mp hv with e | hv
  · rw [e, show ((3 : Int32)).toInt64 = 3 by decide +kernel]; obtain ⟨h2, hca, hY2⟩ := wn_3 (l := l) (D := D) (b0 := b0) (ad := ad) (Hb := Hb) (tau := tau) hY h56 h57 h61; exact ⟨h2, _, hca, by decide +kernel, hY2⟩
  rcases List.mem_cons.mp hv with e | hv
  · rw [e, show ((4 : Int32)).toInt64 = 4 by decide +kernel]; obtain ⟨h2, hca, hY2⟩ := wn_4 (l := l) (D := D) (b0 := b0) (ad := ad) (Hb := Hb) (tau := tau) hY h56 h57 h61; exact ⟨h2, _, hca, by decide +kernel, hY2⟩
  rcases List.mem_cons.mp hv with e | hv
  · rw [e, show ((5 : Int32)).toInt64 = 5 by decide +kernel]; obtain ⟨h2, hca, hY2⟩ := wn_5 (l := l) (D := D) (b0 := b0) (ad := ad) (Hb := Hb) (tau := tau) hY h56 h57 h61; exact ⟨h2, _, hca, by decide +kernel, hY2⟩
  rcases List.mem_cons.mp hv with e | hv
  · rw [e, show ((6 : Int32)).toInt64 = 6 by decide +kernel]; obtain ⟨h2, hca, hY2⟩ := wn_6 (l := l) (D := D) (b0 := b0) (ad := ad) (Hb := Hb) (tau := tau) hY h56 h57 h61; exact ⟨h2, _, hca, by decide +kernel, hY2⟩
  rcases List.mem_cons.mp hv with e | hv
  · rw [e, show ((7 : Int32)).toInt64 = 7 by decide +kernel]; obtain ⟨h2, hca, hY2⟩ := wn_7 (l := l) (D := D) (b0 := b0) (ad := ad) (Hb := Hb) (tau := tau) hY h56 h57 h61; exact ⟨h2, _, hca, by decide +kernel, hY2⟩
  rcases List.mem_cons.mp hv with e | hv
  · rw [e, show ((20 : Int32)).toInt64 = 20 by decide +kernel]; obtain ⟨h2, hca, hY2⟩ := wn_20 (l := l) (D := D) (b0 := b0) (ad := ad) (Hb := Hb) (tau := tau) hY h56 h57 h61; exact ⟨h2, _, hca, by decide +kernel, hY2⟩
  rcases List.mem_cons.mp hv with e | hv
  · rw [e, show ((21 : Int32)).toInt64 = 21 by decide +kernel]; obtain ⟨h2, hca, hY2⟩ := wn_21 (l := l) (D := D) (b0 := b0) (ad := ad) (Hb := Hb) (tau := tau) hY h56 h57 h61; exact ⟨h2, _, hca, by decide +kernel, hY2⟩
  rcases List.mem_cons.mp hv with e | hv
  · rw [e, show ((22 : Int32)).toInt64 = 22 by decide +kernel]; obtain ⟨h2, hca, hY2⟩ := wn_22 (l := l) (D := D) (b0 := b0) (ad := ad) (Hb := Hb) (tau := tau) hY h56 h57 h61; exact ⟨h2, _, hca, by decide +kernel, hY2⟩
  rcases List.mem_cons.mp hv with e | hv
  · rw [e, show ((23 : Int32)).toInt64 = 23 by decide +kernel]; obtain ⟨h2, hca, hY2⟩ := wn_23 (l := l) (D := D) (b0 := b0) (ad := ad) (Hb := Hb) (tau := tau) hY h56 h57 h61; exact ⟨h2, _, hca, by decide +kernel, hY2⟩
  rcases List.mem_cons.mp hv with e | hv
  · rw [e, show ((24 : Int32)).toInt64 = 24 by decide +kernel]; obtain ⟨h2, hca, hY2⟩ := wn_24 (l := l) (D := D) (b0 := b0) (ad := ad) (Hb := Hb) (tau := tau) hY h56 h57 h61; exact ⟨h2, _, hca, by decide +kernel, hY2⟩
  rcases List.mem_cons.mp hv with e | hv
  · rw [e, show ((25 : Int32)).toInt64 = 25 by decide +kernel]; obtain ⟨h2, hca, hY2⟩ := wn_25 (l := l) (D := D) (b0 := b0) (ad := ad) (Hb := Hb) (tau := tau) hY h56 h57 h61; exact ⟨h2, _, hca, by decide +kernel, hY2⟩
  rcases List.mem_cons.mp hv with e | hv
  · rw [e, show ((26 : Int32)).toInt64 = 26 by decide +kernel]; obtain ⟨h2, hca, hY2⟩ := wn_26 (l := l) (D := D) (b0 := b0) (ad := ad) (Hb := Hb) (tau := tau) hY h56 h57 h61; exact ⟨h2, _, hca, by decide +kernel, hY2⟩
  rcases List.mem_cons.mp hv with e | hv
  · rw [e, show ((27 : Int32)).toInt64 = 27 by decide +kernel]; obtain ⟨h2, hca, hY2⟩ := wn_27 (l := l) (D := D) (b0 := b0) (ad := ad) (Hb := Hb) (tau := tau) hY h56 h57 h61; exact ⟨h2, _, hca, by decide +kernel, hY2⟩
  rcases List.mem_cons.mp hv with e | hv
  · rw [e, show ((28 : Int32)).toInt64 = 28 by decide +kernel]; obtain ⟨h2, hca, hY2⟩ := wn_28 (l := l) (D := D) (b0 := b0) (ad := ad) (Hb := Hb) (tau := tau) hY h56 h57 h61; exact ⟨h2, _, hca, by decide +kernel, hY2⟩
  rcases List.mem_cons.mp hv with e | hv
  · rw [e, show ((29 : Int32)).toInt64 = 29 by decide +kernel]; obtain ⟨h2, hca, hY2⟩ := wn_29 (l := l) (D := D) (b0 := b0) (ad := ad) (Hb := Hb) (tau := tau) hY h56 h57 h61; exact ⟨h2, _, hca, by decide +kernel, hY2⟩
  rcases List.mem_cons.mp hv with e | hv
  · rw [e, show ((3000 : Int32)).toInt64 = 3000 by decide +kernel]; obtain ⟨h2, hca, hY2⟩ := wn_3000 (l := l) (D := D) (b0 := b0) (ad := ad) (Hb := Hb) (tau := tau) hY h56 h57 h61; exact ⟨h2, _, hca, by decide +kernel, hY2⟩
  rcases List.mem_cons.mp hv with e | hv
  · rw [e, show ((3001 : Int32)).toInt64 = 3001 by decide +kernel]; obtain ⟨h2, hca, hY2⟩ := wn_3001 (l := l) (D := D) (b0 := b0) (ad := ad) (Hb := Hb) (tau := tau) hY h56 h57 h61; exact ⟨h2, _, hca, by decide +kernel, hY2⟩
  rcases List.mem_cons.mp hv with e | hv
  · rw [e, show ((3002 : Int32)).toInt64 = 3002 by decide +kernel]; obtain ⟨h2, hca, hY2⟩ := wn_3002 (l := l) (D := D) (b0 := b0) (ad := ad) (Hb := Hb) (tau := tau) hY h56 h57 h61; exact ⟨h2, _, hca, by decide +kernel, hY2⟩
  rcases List.mem_cons.mp hv with e | hv
  · rw [e, show ((3003 : Int32)).toInt64 = 3003 by decide +kernel]; obtain ⟨h2, hca, hY2⟩ := wn_3003 (l := l) (D := D) (b0 := b0) (ad := ad) (Hb := Hb) (tau := tau) hY h56 h57 h61; exact ⟨h2, _, hca, by decide +kernel, hY2⟩
  rcases List.mem_cons.mp hv with e | hv
  · rw [e, show ((3004 : Int32)).toInt64 = 3004 by decide +kernel]; obtain ⟨h2, hca, hY2⟩ := wn_3004 (l := l) (D := D) (b0 := b0) (ad := ad) (Hb := Hb) (tau := tau) hY h56 h57 h61; exact ⟨h2, _, hca, by decide +kernel, hY2⟩
  rcases List.mem_cons.mp hv with e | hv
  · rw [e, show ((3005 : Int32)).toInt64 = 3005 by decide +kernel]; obtain ⟨h2, hca, hY2⟩ := wn_3005 (l := l) (D := D) (b0 := b0) (ad := ad) (Hb := Hb) (tau := tau) hY h56 h57 h61; exact ⟨h2, _, hca, by decide +kernel, hY2⟩
  rcases List.mem_cons.mp hv with e | hv
  · rw [e, show ((3100 : Int32)).toInt64 = 3100 by decide +kernel]; obtain ⟨h2, hca, hY2⟩ := wn_3100 (l := l) (D := D) (b0 := b0) (ad := ad) (Hb := Hb) (tau := tau) hY h56 h57 h61; exact ⟨h2, _, hca, by decide +kernel, hY2⟩
  rcases List.mem_cons.mp hv with e | hv
  · rw [e, show ((3101 : Int32)).toInt64 = 3101 by decide +kernel]; obtain ⟨h2, hca, hY2⟩ := wn_3101 (l := l) (D := D) (b0 := b0) (ad := ad) (Hb := Hb) (tau := tau) hY h56 h57 h61; exact ⟨h2, _, hca, by decide +kernel, hY2⟩
  rcases List.mem_cons.mp hv with e | hv
  · rw [e, show ((3102 : Int32)).toInt64 = 3102 by decide +kernel]; obtain ⟨h2, hca, hY2⟩ := wn_3102 (l := l) (D := D) (b0 := b0) (ad := ad) (Hb := Hb) (tau := tau) hY h56 h57 h61; exact ⟨h2, _, hca, by decide +kernel, hY2⟩
  rcases List.mem_cons.mp hv with e | hv
  · rw [e, show ((3103 : Int32)).toInt64 = 3103 by decide +kernel]; obtain ⟨h2, hca, hY2⟩ := wn_3103 (l := l) (D := D) (b0 := b0) (ad := ad) (Hb := Hb) (tau := tau) hY h56 h57 h61; exact ⟨h2, _, hca, by decide +kernel, hY2⟩
  rcases List.mem_cons.mp hv with e | hv
  · rw [e, show ((3104 : Int32)).toInt64 = 3104 by decide +kernel]; obtain ⟨h2, hca, hY2⟩ := wn_3104 (l := l) (D := D) (b0 := b0) (ad := ad) (Hb := Hb) (tau := tau) hY h56 h57 h61; exact ⟨h2, _, hca, by decide +kernel, hY2⟩
  rcases List.mem_cons.mp hv with e | hv
  · rw [e, show ((3105 : Int32)).toInt64 = 3105 by decide +kernel]; obtain ⟨h2, hca, hY2⟩ := wn_3105 (l := l) (D := D) (b0 := b0) (ad := ad) (Hb := Hb) (tau := tau) hY h56 h57 h61; exact ⟨h2, _, hca, by decide +kernel, hY2⟩
  rcases List.mem_cons.mp hv with e | hv
  · rw [e, show ((3200 : Int32)).toInt64 = 3200 by decide +kernel]; obtain ⟨h2, hca, hY2⟩ := wn_3200 (l := l) (D := D) (b0 := b0) (ad := ad) (Hb := Hb) (tau := tau) hY h56 h57 h61; exact ⟨h2, _, hca, by decide +kernel, hY2⟩
  rcases List.mem_cons.mp hv with e | hv
  · rw [e, show ((3201 : Int32)).toInt64 = 3201 by decide +kernel]; obtain ⟨h2, hca, hY2⟩ := wn_3201 (l := l) (D := D) (b0 := b0) (ad := ad) (Hb := Hb) (tau := tau) hY h56 h57 h61; exact ⟨h2, _, hca, by decide +kernel, hY2⟩
  rcases List.mem_cons.mp hv with e | hv
  · rw [e, show ((3202 : Int32)).toInt64 = 3202 by decide +kernel]; obtain ⟨h2, hca, hY2⟩ := wn_3202 (l := l) (D := D) (b0 := b0) (ad := ad) (Hb := Hb) (tau := tau) hY h56 h57 h61; exact ⟨h2, _, hca, by decide +kernel, hY2⟩
  rcases List.mem_cons.mp hv with e | hv
  · rw [e, show ((3203 : Int32)).toInt64 = 3203 by decide +kernel]; obtain ⟨h2, hca, hY2⟩ := wn_3203 (l := l) (D := D) (b0 := b0) (ad := ad) (Hb := Hb) (tau := tau) hY h56 h57 h61; exact ⟨h2, _, hca, by decide +kernel, hY2⟩
  rcases List.mem_cons.mp hv with e | hv
  · rw [e, show ((3204 : Int32)).toInt64 = 3204 by decide +kernel]; obtain ⟨h2, hca, hY2⟩ := wn_3204 (l := l) (D := D) (b0 := b0) (ad := ad) (Hb := Hb) (tau := tau) hY h56 h57 h61; exact ⟨h2, _, hca, by decide +kernel, hY2⟩
  rcases List.mem_cons.mp hv with e | hv
  · rw [e, show ((3205 : Int32)).toInt64 = 3205 by decide +kernel]; obtain ⟨h2, hca, hY2⟩ := wn_3205 (l := l) (D := D) (b0 := b0) (ad := ad) (Hb := Hb) (tau := tau) hY h56 h57 h61; exact ⟨h2, _, hca, by decide +kernel, hY2⟩
  rcases List.mem_cons.mp hv with e | hv
  · rw [e, show ((3300 : Int32)).toInt64 = 3300 by decide +kernel]; obtain ⟨h2, hca, hY2⟩ := wn_3300 (l := l) (D := D) (b0 := b0) (ad := ad) (Hb := Hb) (tau := tau) hY h56 h57 h61; exact ⟨h2, _, hca, by decide +kernel, hY2⟩
  rcases List.mem_cons.mp hv with e | hv
  · rw [e, show ((3301 : Int32)).toInt64 = 3301 by decide +kernel]; obtain ⟨h2, hca, hY2⟩ := wn_3301 (l := l) (D := D) (b0 := b0) (ad := ad) (Hb := Hb) (tau := tau) hY h56 h57 h61; exact ⟨h2, _, hca, by decide +kernel, hY2⟩
  rcases List.mem_cons.mp hv with e | hv
  · rw [e, show ((3302 : Int32)).toInt64 = 3302 by decide +kernel]; obtain ⟨h2, hca, hY2⟩ := wn_3302 (l := l) (D := D) (b0 := b0) (ad := ad) (Hb := Hb) (tau := tau) hY h56 h57 h61; exact ⟨h2, _, hca, by decide +kernel, hY2⟩
  rcases List.mem_cons.mp hv with e | hv
  · rw [e, show ((3303 : Int32)).toInt64 = 3303 by decide +kernel]; obtain ⟨h2, hca, hY2⟩ := wn_3303 (l := l) (D := D) (b0 := b0) (ad := ad) (Hb := Hb) (tau := tau) hY h56 h57 h61; exact ⟨h2, _, hca, by decide +kernel, hY2⟩
  rcases List.mem_cons.mp hv with e | hv
  · rw [e, show ((3304 : Int32)).toInt64 = 3304 by decide +kernel]; obtain ⟨h2, hca, hY2⟩ := wn_3304 (l := l) (D := D) (b0 := b0) (ad := ad) (Hb := Hb) (tau := tau) hY h56 h57 h61; exact ⟨h2, _, hca, by decide +kernel, hY2⟩
  rcases List.mem_cons.mp hv with e | hv
  · rw [e, show ((3305 : Int32)).toInt64 = 3305 by decide +kernel]; obtain ⟨h2, hca, hY2⟩ := wn_3305 (l := l) (D := D) (b0 := b0) (ad := ad) (Hb := Hb) (tau := tau) hY h56 h57 h61; exact ⟨h2, _, hca, by decide +kernel, hY2⟩
  rcases List.mem_cons.mp hv with e | hv
  · rw [e, show ((3400 : Int32)).toInt64 = 3400 by decide +kernel]; obtain ⟨h2, hca, hY2⟩ := wn_3400 (l := l) (D := D) (b0 := b0) (ad := ad) (Hb := Hb) (tau := tau) hY h56 h57 h61; exact ⟨h2, _, hca, by decide +kernel, hY2⟩
  rcases List.mem_cons.mp hv with e | hv
  · rw [e, show ((3401 : Int32)).toInt64 = 3401 by decide +kernel]; obtain ⟨h2, hca, hY2⟩ := wn_3401 (l := l) (D := D) (b0 := b0) (ad := ad) (Hb := Hb) (tau := tau) hY h56 h57 h61; exact ⟨h2, _, hca, by decide +kernel, hY2⟩
  rcases List.mem_cons.mp hv with e | hv
  · rw [e, show ((3402 : Int32)).toInt64 = 3402 by decide +kernel]; obtain ⟨h2, hca, hY2⟩ := wn_3402 (l := l) (D := D) (b0 := b0) (ad := ad) (Hb := Hb) (tau := tau) hY h56 h57 h61; exact ⟨h2, _, hca, by decide +kernel, hY2⟩
  rcases List.mem_cons.mp hv with e | hv
  · rw [e, show ((3403 : Int32)).toInt64 = 3403 by decide +kernel]; obtain ⟨h2, hca, hY2⟩ := wn_3403 (l := l) (D := D) (b0 := b0) (ad := ad) (Hb := Hb) (tau := tau) hY h56 h57 h61; exact ⟨h2, _, hca, by decide +kernel, hY2⟩
  rcases List.mem_cons.mp hv with e | hv
  · rw [e, show ((3404 : Int32)).toInt64 = 3404 by decide +kernel]; obtain ⟨h2, hca, hY2⟩ := wn_3404 (l := l) (D := D) (b0 := b0) (ad := ad) (Hb := Hb) (tau := tau) hY h56 h57 h61; exact ⟨h2, _, hca, by decide +kernel, hY2⟩
  rcases List.mem_cons.mp hv with e | hv
  · rw [e, show ((3405 : Int32)).toInt64 = 3405 by decide +kernel]; obtain ⟨h2, hca, hY2⟩ := wn_3405 (l := l) (D := D) (b0 := b0) (ad := ad) (Hb := Hb) (tau := tau) hY h56 h57 h61; exact ⟨h2, _, hca, by decide +kernel, hY2⟩
  rcases List.mem_cons.mp hv with e | hv
  · rw [e, show ((3500 : Int32)).toInt64 = 3500 by decide +kernel]; obtain ⟨h2, hca, hY2⟩ := wn_3500 (l := l) (D := D) (b0 := b0) (ad := ad) (Hb := Hb) (tau := tau) hY h56 h57 h61; exact ⟨h2, _, hca, by decide +kernel, hY2⟩
  rcases List.mem_cons.mp hv with e | hv
  · rw [e, show ((3501 : Int32)).toInt64 = 3501 by decide +kernel]; obtain ⟨h2, hca, hY2⟩ := wn_3501 (l := l) (D := D) (b0 := b0) (ad := ad) (Hb := Hb) (tau := tau) hY h56 h57 h61; exact ⟨h2, _, hca, by decide +kernel, hY2⟩
  rcases List.mem_cons.mp hv with e | hv
  · rw [e, show ((3502 : Int32)).toInt64 = 3502 by decide +kernel]; obtain ⟨h2, hca, hY2⟩ := wn_3502 (l := l) (D := D) (b0 := b0) (ad := ad) (Hb := Hb) (tau := tau) hY h56 h57 h61; exact ⟨h2, _, hca, by decide +kernel, hY2⟩
  rcases List.mem_cons.mp hv with e | hv
  · rw [e, show ((3503 : Int32)).toInt64 = 3503 by decide +kernel]; obtain ⟨h2, hca, hY2⟩ := wn_3503 (l := l) (D := D) (b0 := b0) (ad := ad) (Hb := Hb) (tau := tau) hY h56 h57 h61; exact ⟨h2, _, hca, by decide +kernel, hY2⟩
  rcases List.mem_cons.mp hv with e | hv
  · rw [e, show ((3504 : Int32)).toInt64 = 3504 by decide +kernel]; obtain ⟨h2, hca, hY2⟩ := wn_3504 (l := l) (D := D) (b0 := b0) (ad := ad) (Hb := Hb) (tau := tau) hY h56 h57 h61; exact ⟨h2, _, hca, by decide +kernel, hY2⟩
  rcases List.mem_cons.mp hv with e | hv
  · rw [e, show ((3505 : Int32)).toInt64 = 3505 by decide +kernel]; obtain ⟨h2, hca, hY2⟩ := wn_3505 (l := l) (D := D) (b0 := b0) (ad := ad) (Hb := Hb) (tau := tau) hY h56 h57 h61; exact ⟨h2, _, hca, by decide +kernel, hY2⟩
  cases hv
set_option maxHeartbeats 300000 in
set_option maxRecDepth 100000 in
theorem jm_d {d : Nat} {x m : Int32} (hY : YH 84 62986 V h) (h56 : V 56 = O56 x) (hm : ¬ m = 0) : ∃ h2, mx_Ca (tB l D b0 ad Hb tau) (d + 1) 223 [.ref 56, .int m] h (some (.int (dr (nxx x) m)), h2) ∧ YH 84 62986 (upV V 56 (O56 (nxx x))) h2 := by
  refine Jm (M := (prog_14_method_71_code, 2, "TitheHeapModel", "draw", (Option.some Jvm.ClassFile.FieldType.int))) rfl rfl rfl rfl rfl ?_
  show mx_J _ _ _ 0 [some (.ref 56), some (.int m)] [] h _
  refine mx_J.step (sn_223 0) (fun _ _ => rfl) ?_
  refine mx_J.step (sn_223 1) (fun _ _ => rfl) ?_
  refine mx_J.step (sn_223 4) (fun _ _ => rfl) ?_
  refine Jgetf hY (show mx_Sn _ _ 5 (mx_getf 12 23 8) from sn_223 5) rfl h56 rfl ?_
  refine mx_J.step (sn_223 8) (fun _ _ => rfl) ?_
  refine mx_J.step (sn_223 9) (fun _ _ => rfl) ?_
  refine mx_J.step (sn_223 12) (fun _ _ => rfl) ?_
  refine Jputf hY (show mx_Sn _ _ 13 (mx_putf 1 12 23 (.int) 16) from sn_223 13) rfl rfl h56 rfl (fun h hY => ?_)
  refine mx_J.step (sn_223 16) (fun _ _ => rfl) ?_
  refine Jgetf hY (show mx_Sn _ _ 17 (mx_getf 12 23 20) from sn_223 17) rfl rfl rfl ?_
  refine mx_J.step (sn_223 20) (fun _ _ => rfl) ?_
  refine mx_J.step (sn_223 22) (fun _ _ => rfl) ?_
  refine mx_J.step (sn_223 23) (fun _ _ => rfl) ?_
  refine Jirem (show mx_Sn _ _ 24 (mx_irem 25) from sn_223 24) hm ?_
  exact mx_J.ret (sn_223 25) (fun _ _ => rfl) ⟨rfl, hY⟩
set_option maxHeartbeats 300000 in
set_option maxRecDepth 100000 in
theorem jm_n {x : Int32} (hY : YH 84 62986 V h) (h56 : V 56 = O56 x) : ∃ h2, mx_Ca (tB l D b0 ad Hb tau) 29 224 [.ref 56] h (some (.int (nd x).1), h2) ∧ ∃ V2, YH 84 62986 V2 h2 ∧ fr [56] V V2 ∧ V2 56 = O56 (nd x).2 := by
  refine Jm (M := (prog_14_method_72_code, 3, "TitheHeapModel", "drawn", (Option.some Jvm.ClassFile.FieldType.int))) rfl rfl rfl rfl rfl ?_
  show mx_J _ _ _ 0 [some (.ref 56), none, none] [] h _
  refine mx_J.step (sn_224 0) (fun _ _ => rfl) ?_
  refine mx_J.step (sn_224 1) (fun _ _ => rfl) ?_
  obtain ⟨h1, hca, hY1⟩ := jm_d (l := l) (D := D) (b0 := b0) (ad := ad) (Hb := Hb) (tau := tau) (d := 27) (m := 6) hY h56 (by decide +kernel)
  refine Jcallv (b := 56) hY (show mx_Sn _ _ 3 (mx_callv 223 2 12 6) from sn_224 3) rfl h56 hca rfl rfl ?_
  have hY := hY1
  refine mx_J.step (sn_224 6) (fun _ _ => rfl) ?_
  refine mx_J.step (sn_224 7) (fun _ _ => rfl) ?_
  refine mx_J.step (sn_224 8) (fun _ _ => rfl) ?_
  obtain ⟨n, hn, e⟩ := dr_in (nxx x) 6 (mm := 6) (by decide +kernel) (by decide) (by decide)
  rcases (show n = 0 ∨ n = 1 ∨ n = 2 ∨ n = 3 ∨ n = 4 ∨ n = 5 by omega) with h9 | h9 | h9 | h9 | h9 | h9 <;> subst h9
  · have hk : dr (nxx x) 6 = 0 := e.trans (by decide +kernel)
    refine Jicmp_ge_f (show mx_Sn _ _ 9 (mx_icmp_ge 45 12) from sn_224 9) (by rw [hk]; decide +kernel) ?_
    refine mx_J.step (sn_224 12) (fun _ _ => rfl) ?_
    refine mx_J.step (sn_224 13) (fun _ _ => rfl) ?_
    refine Jicmp_ge_f (show mx_Sn _ _ 14 (mx_icmp_ge 21 17) from sn_224 14) (by rw [hk]; decide +kernel) ?_
    refine mx_J.step (sn_224 17) (fun _ _ => rfl) ?_
    refine mx_J.step (sn_224 18) (fun _ _ => rfl) ?_
    have hn2 : nd x = (0, nxx x) := by unfold nd; rw [if_neg (by rw [hk]; decide +kernel), if_neg (by rw [hk]; decide +kernel), if_neg (by rw [hk]; decide +kernel)]
    exact mx_J.ret (sn_224 44) (fun _ _ => rfl) ⟨by rw [hn2], _, hY, frY (l := [56]) hY (fr.up fr.rfl' rfl), by rw [hn2]; exact up_eq⟩
  · have hk : dr (nxx x) 6 = 1 := e.trans (by decide +kernel)
    refine Jicmp_ge_f (show mx_Sn _ _ 9 (mx_icmp_ge 45 12) from sn_224 9) (by rw [hk]; decide +kernel) ?_
    refine mx_J.step (sn_224 12) (fun _ _ => rfl) ?_
    refine mx_J.step (sn_224 13) (fun _ _ => rfl) ?_
    refine Jicmp_ge_f (show mx_Sn _ _ 14 (mx_icmp_ge 21 17) from sn_224 14) (by rw [hk]; decide +kernel) ?_
    refine mx_J.step (sn_224 17) (fun _ _ => rfl) ?_
    refine mx_J.step (sn_224 18) (fun _ _ => rfl) ?_
    have hn2 : nd x = (0, nxx x) := by unfold nd; rw [if_neg (by rw [hk]; decide +kernel), if_neg (by rw [hk]; decide +kernel), if_neg (by rw [hk]; decide +kernel)]
    exact mx_J.ret (sn_224 44) (fun _ _ => rfl) ⟨by rw [hn2], _, hY, frY (l := [56]) hY (fr.up fr.rfl' rfl), by rw [hn2]; exact up_eq⟩
  · have hk : dr (nxx x) 6 = 2 := e.trans (by decide +kernel)
    refine Jicmp_ge_f (show mx_Sn _ _ 9 (mx_icmp_ge 45 12) from sn_224 9) (by rw [hk]; decide +kernel) ?_
    refine mx_J.step (sn_224 12) (fun _ _ => rfl) ?_
    refine mx_J.step (sn_224 13) (fun _ _ => rfl) ?_
    refine Jicmp_ge_f (show mx_Sn _ _ 14 (mx_icmp_ge 21 17) from sn_224 14) (by rw [hk]; decide +kernel) ?_
    refine mx_J.step (sn_224 17) (fun _ _ => rfl) ?_
    refine mx_J.step (sn_224 18) (fun _ _ => rfl) ?_
    have hn2 : nd x = (0, nxx x) := by unfold nd; rw [if_neg (by rw [hk]; decide +kernel), if_neg (by rw [hk]; decide +kernel), if_neg (by rw [hk]; decide +kernel)]
    exact mx_J.ret (sn_224 44) (fun _ _ => rfl) ⟨by rw [hn2], _, hY, frY (l := [56]) hY (fr.up fr.rfl' rfl), by rw [hn2]; exact up_eq⟩
  · have hk : dr (nxx x) 6 = 3 := e.trans (by decide +kernel)
    refine Jicmp_ge_f (show mx_Sn _ _ 9 (mx_icmp_ge 45 12) from sn_224 9) (by rw [hk]; decide +kernel) ?_
    refine mx_J.step (sn_224 12) (fun _ _ => rfl) ?_
    refine mx_J.step (sn_224 13) (fun _ _ => rfl) ?_
    refine Jicmp_ge_t (show mx_Sn _ _ 14 (mx_icmp_ge 21 17) from sn_224 14) (by rw [hk]; decide +kernel) ?_
    refine mx_J.step (sn_224 21) (fun _ _ => rfl) ?_
    refine mx_J.step (sn_224 22) (fun _ _ => rfl) ?_
    refine Jicmp_ne_f (show mx_Sn _ _ 23 (mx_icmp_ne 35 26) from sn_224 23) (by rw [hk]; decide +kernel) ?_
    refine mx_J.step (sn_224 26) (fun _ _ => rfl) ?_
    refine mx_J.step (sn_224 27) (fun _ _ => rfl) ?_
    obtain ⟨h1, hca, hY1⟩ := jm_d (l := l) (D := D) (b0 := b0) (ad := ad) (Hb := Hb) (tau := tau) (d := 27) (m := 8) hY up_eq (by decide +kernel)
    refine Jcallv (b := 56) hY (show mx_Sn _ _ 29 (mx_callv 223 2 12 32) from sn_224 29) rfl up_eq hca rfl rfl ?_
    have hY := hY1
    refine mx_J.step (sn_224 32) (fun _ _ => rfl) ?_
    have hn2 : nd x = (dr (nxx (nxx x)) 8, nxx (nxx x)) := by unfold nd; rw [if_pos hk]
    exact mx_J.ret (sn_224 44) (fun _ _ => rfl) ⟨by rw [hn2], _, hY, frY (l := [56]) hY (fr.up (fr.up fr.rfl' rfl) rfl), by rw [hn2]; exact up_eq⟩
  · have hk : dr (nxx x) 6 = 4 := e.trans (by decide +kernel)
    refine Jicmp_ge_f (show mx_Sn _ _ 9 (mx_icmp_ge 45 12) from sn_224 9) (by rw [hk]; decide +kernel) ?_
    refine mx_J.step (sn_224 12) (fun _ _ => rfl) ?_
    refine mx_J.step (sn_224 13) (fun _ _ => rfl) ?_
    refine Jicmp_ge_t (show mx_Sn _ _ 14 (mx_icmp_ge 21 17) from sn_224 14) (by rw [hk]; decide +kernel) ?_
    refine mx_J.step (sn_224 21) (fun _ _ => rfl) ?_
    refine mx_J.step (sn_224 22) (fun _ _ => rfl) ?_
    refine Jicmp_ne_t (show mx_Sn _ _ 23 (mx_icmp_ne 35 26) from sn_224 23) (by rw [hk]; decide +kernel) ?_
    refine mx_J.step (sn_224 35) (fun _ _ => rfl) ?_
    refine mx_J.step (sn_224 37) (fun _ _ => rfl) ?_
    refine mx_J.step (sn_224 38) (fun _ _ => rfl) ?_
    obtain ⟨h1, hca, hY1⟩ := jm_d (l := l) (D := D) (b0 := b0) (ad := ad) (Hb := Hb) (tau := tau) (d := 27) (m := 10) hY up_eq (by decide +kernel)
    refine Jcallv (b := 56) hY (show mx_Sn _ _ 40 (mx_callv 223 2 12 43) from sn_224 40) rfl up_eq hca rfl rfl ?_
    have hY := hY1
    refine mx_J.step (sn_224 43) (fun _ _ => rfl) ?_
    have hn2 : nd x = (20 + dr (nxx (nxx x)) 10, nxx (nxx x)) := by unfold nd; rw [if_neg (by rw [hk]; decide +kernel), if_pos hk]
    exact mx_J.ret (sn_224 44) (fun _ _ => rfl) ⟨by rw [hn2], _, hY, frY (l := [56]) hY (fr.up (fr.up fr.rfl' rfl) rfl), by rw [hn2]; exact up_eq⟩
  · have hk : dr (nxx x) 6 = 5 := e.trans (by decide +kernel)
    refine Jicmp_ge_t (show mx_Sn _ _ 9 (mx_icmp_ge 45 12) from sn_224 9) (by rw [hk]; decide +kernel) ?_
    refine mx_J.step (sn_224 45) (fun _ _ => rfl) ?_
    refine mx_J.step (sn_224 46) (fun _ _ => rfl) ?_
    obtain ⟨h1, hca, hY1⟩ := jm_d (l := l) (D := D) (b0 := b0) (ad := ad) (Hb := Hb) (tau := tau) (d := 27) (m := 6) hY up_eq (by decide +kernel)
    refine Jcallv (b := 56) hY (show mx_Sn _ _ 48 (mx_callv 223 2 12 51) from sn_224 48) rfl up_eq hca rfl rfl ?_
    have hY := hY1
    refine mx_J.step (sn_224 51) (fun _ _ => rfl) ?_
    refine mx_J.step (sn_224 52) (fun _ _ => rfl) ?_
    refine mx_J.step (sn_224 55) (fun _ _ => rfl) ?_
    refine mx_J.step (sn_224 57) (fun _ _ => rfl) ?_
    refine mx_J.step (sn_224 58) (fun _ _ => rfl) ?_
    refine mx_J.step (sn_224 59) (fun _ _ => rfl) ?_
    refine mx_J.step (sn_224 60) (fun _ _ => rfl) ?_
    refine mx_J.step (sn_224 61) (fun _ _ => rfl) ?_
    obtain ⟨h1, hca, hY1⟩ := jm_d (l := l) (D := D) (b0 := b0) (ad := ad) (Hb := Hb) (tau := tau) (d := 27) (m := 6) hY up_eq (by decide +kernel)
    refine Jcallv (b := 56) hY (show mx_Sn _ _ 63 (mx_callv 223 2 12 66) from sn_224 63) rfl up_eq hca rfl rfl ?_
    have hY := hY1
    refine mx_J.step (sn_224 66) (fun _ _ => rfl) ?_
    have hn2 : nd x = (3000 + 100 * dr (nxx (nxx x)) 6 + dr (nxx (nxx (nxx x))) 6, nxx (nxx (nxx x))) := by unfold nd; rw [if_neg (by rw [hk]; decide +kernel), if_neg (by rw [hk]; decide +kernel), if_pos hk]
    exact mx_J.ret (sn_224 67) (fun _ _ => rfl) ⟨by rw [hn2], _, hY, frY (l := [56]) hY (fr.up (fr.up (fr.up fr.rfl' rfl) rfl) rfl), by rw [hn2]; exact up_eq⟩
set_option maxRecDepth 100000 in
theorem lgb : ∀ b, b < 41 → 1 ≤ b → ¬ lg_cmp (nI b).toInt64 1 < 0 ∧ ¬ 0 < lg_cmp (nI b).toInt64 40 := by decide +kernel
set_option maxHeartbeats 300000 in
set_option maxRecDepth 100000 in
theorem jm_w {d b : Nat} (hY : YH 84 62986 V h) (h1b : 1 ≤ b) (hb : b < 41) : ∃ h2, mx_Ca (tB l D b0 ad Hb tau) (d + 1) 154 [.long (nI b).toInt64, .long 1, .long 40] h (some (.int 1), h2) ∧ YH 84 62986 V h2 := by
  refine Jm (M := (prog_14_method_2_code, 6, "TitheHeapModel", "within", (Option.some Jvm.ClassFile.FieldType.boolean))) rfl rfl rfl rfl rfl ?_
  show mx_J _ _ _ 0 [some (.long (nI b).toInt64), none, some (.long 1), none, some (.long 40), none] [] h _
  refine mx_J.step (sn_154 0) (fun _ _ => rfl) ?_
  refine mx_J.step (sn_154 1) (fun _ _ => rfl) ?_
  refine Jlif_lt_f (show mx_Sn _ _ 2 (mx_lif_lt 17 6) from sn_154 2) (lgb b hb h1b).1 ?_
  refine mx_J.step (sn_154 6) (fun _ _ => rfl) ?_
  refine mx_J.step (sn_154 7) (fun _ _ => rfl) ?_
  refine Jlif_gt_f (show mx_Sn _ _ 9 (mx_lif_gt 17 13) from sn_154 9) (lgb b hb h1b).2 ?_
  refine mx_J.step (sn_154 13) (fun _ _ => rfl) ?_
  refine mx_J.step (sn_154 14) (fun _ _ => rfl) ?_
  exact mx_J.ret (sn_154 18) (fun _ _ => rfl) ⟨rfl, hY⟩
end WM
