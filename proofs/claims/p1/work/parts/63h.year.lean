section WK4
variable {l : Launch} {D : va_G} {b0 : Nat} {ad : Nat → Nat} {Hb : Heap} {tau : Nat → Int64} {h : mx_H} {V : Nat → mx_C}
set_option maxHeartbeats 300000 in
set_option maxRecDepth 100000 in
theorem jl_137 {m : Nat} {x : Int32} (hY : YH 84 62986 V h) (hI : IC V m x) : ∃ h2, mx_Ca (tB l D b0 ad Hb tau) 29 137 [.ref 1] h (none, h2) ∧ ∃ V2, YH 84 62986 V2 h2 ∧ KM V2 := by
  obtain ⟨ne, s, mc, TS, hP, n1, nm, h38, h42, hTS, h83, h36, h40, h41, hKM⟩ := hI
  refine Jm (M := (prog_1_method_50_code, 1, "TitheHeap", "land", (Option.none : Option Jvm.ClassFile.FieldType))) rfl rfl rfl rfl rfl ?_
  show mx_J _ _ _ 0 [some (.ref 1)] [] h _
  refine mx_J.step (sn_137 0) (fun _ _ => rfl) ?_
  refine Jgetf hY (show mx_Sn _ _ 1 (mx_getf 11 14 4) from sn_137 1) rfl (kb_1 hP.1) rfl ?_
  refine mx_J.step (sn_137 4) (fun _ _ => rfl) ?_
  refine Jgetf hY (show mx_Sn _ _ 5 (mx_getf 11 12 8) from sn_137 5) rfl (kb_1 hP.1) rfl ?_
  obtain ⟨h1, hca, hY1⟩ := cl_keep hY h36 h40 h41
  refine Jcallv0 (b := 40) hY (show mx_Sn _ _ 8 (mx_callv 35 2 6 11) from sn_137 8) rfl h40 hca rfl rfl ?_
  have hY := hY1
  refine mx_J.step (sn_137 11) (fun _ _ => rfl) ?_
  refine Jgetf hY (show mx_Sn _ _ 12 (mx_getf 11 12 15) from sn_137 12) rfl (kb_1 hP.1) rfl ?_
  refine mx_J.step (sn_137 15) (fun _ _ => rfl) ?_
  refine Jgetf hY (show mx_Sn _ _ 16 (mx_getf 11 13 19) from sn_137 16) rfl (kb_1 hP.1) rfl ?_
  have hf1 := frY (l := [36, 40, 41]) hY (fr.up (fr.up fr.rfl' rfl) rfl)
  obtain ⟨h1, hca, V2, hY1, hf2, e36⟩ := jt_33b (d := 27) hY (by decide) h38 h36
  have hfa := hf1.trans (hf2.mono rfl)
  have hP2 := hP.fr hfa rfl
  refine Jcallv0 (b := 36) hY (show mx_Sn _ _ 19 (mx_callv 33 2 5 22) from sn_137 19) rfl h36 hca rfl rfl ?_
  have hY := hY1
  refine mx_J.step (sn_137 22) (fun _ _ => rfl) ?_
  refine Jgetf hY (show mx_Sn _ _ 23 (mx_getf 11 6 26) from sn_137 23) rfl (kb_1 hP2.1) rfl ?_
  refine mx_J.step (sn_137 26) (fun _ _ => rfl) ?_
  refine Jgetf hY (show mx_Sn _ _ 27 (mx_getf 11 12 30) from sn_137 27) rfl (kb_1 hP2.1) rfl ?_
  refine Jgetf hY (show mx_Sn _ _ 30 (mx_getf 5 3 33) from sn_137 30) rfl e36 rfl ?_
  obtain ⟨h1, hca, V3, ne2, hY1, hf3, hP3, -, -⟩ := jt_25 (d := 27) (t := s) hY (by decide) hP2
  refine Jcallv0 (b := 12) hY (show mx_Sn _ _ 33 (mx_callv 25 2 4 36) from sn_137 33) rfl hP2.2.1 hca rfl rfl ?_
  have hY := hY1
  exact mx_J.ret (sn_137 36) (fun _ _ => rfl) ⟨rfl, V3, hY, (hKM.fr hfa rfl).fr hf3 rfl⟩
theorem ic_1 {V : Nat → mx_C} {m : Nat} {x : Int32} (hI : IC V m x) : V 1 = zc_1 := by
  obtain ⟨ne, s, mc, TS, hP, -⟩ := hI
  exact kb_1 hP.1
theorem ic_83 {V : Nat → mx_C} {m : Nat} {x : Int32} (hI : IC V m x) : V 83 = .inl (1, [.int x]) := by
  obtain ⟨ne, s, mc, TS, hP, n1, nm, h38, h42, hTS, h83, -⟩ := hI
  exact h83
theorem ic_km {V : Nat → mx_C} {m : Nat} {x : Int32} (hI : IC V m x) : KM V := by
  obtain ⟨ne, s, mc, TS, hP, n1, nm, h38, h42, hTS, h83, h36, h40, h41, hKM⟩ := hI
  exact hKM
theorem IC.draw {V V2 : Nat → mx_C} {m : Nat} {x y : Int32} (hI : IC V m x) (hf : fr [83] V V2) (e : V2 83 = .inl (1, [.int y])) : IC V2 m y := by
  obtain ⟨ne, s, mc, TS, hP, n1, nm, h38, h42, hTS, h83, h36, h40, h41, hKM⟩ := hI
  exact ⟨ne, s, mc, TS, hP.fr hf rfl, n1, nm, (hf 38 rfl).trans h38, (hf 42 rfl).trans h42, hTS, e, (hf 36 rfl).trans h36, (hf 40 rfl).trans h40, (hf 41 rfl).trans h41, hKM.fr hf rfl⟩
set_option maxHeartbeats 300000 in
set_option maxRecDepth 100000 in
theorem yc_loop {seed : Int32} : ∀ (r a b : Nat) (x done : Int32) (V : Nat → mx_C) (h : mx_H) (res : Int32), YH 84 62986 V h → IC V (a + 1) x → a + r = b → b ≤ 40 → res = yr r x done → mx_J (tB l D b0 ad Hb tau) (prog_1_method_16_code, 6, "TitheHeap", "year", (Option.some Jvm.ClassFile.FieldType.int)) 29 40 [some (.ref 1), some (.int seed), some (.int (nI b)), some (.ref 83), some (.int done), some (.int (nI a))] [] h (fun q => q.1 = some (.int res) ∧ ∃ V2, YH 84 62986 V2 q.2 ∧ KM V2)
  | 0, a, b, x, done, V, h, res, hY, hI, hab, hb, hres => by
    obtain rfl : a = b := by omega
    refine mx_J.step (sn_103 40) (fun _ _ => rfl) ?_
    refine mx_J.step (sn_103 42) (fun _ _ => rfl) ?_
    refine Jicmp_ge_t (show mx_Sn _ _ 43 (mx_icmp_ge 71 46) from sn_103 43) (nI_le (Nat.le_refl _) (by omega)) ?_
    refine mx_J.step (sn_103 71) (fun _ _ => rfl) ?_
    by_cases hd : done ≤ 0
    · refine Jif_le_t (show mx_Sn _ _ 73 (mx_if_le 80 76) from sn_103 73) hd ?_
      refine mx_J.step (sn_103 80) (fun _ _ => rfl) ?_
      exact mx_J.ret (sn_103 82) (fun _ _ => rfl) ⟨by rw [hres]; rfl, V, hY, ic_km hI⟩
    · refine Jif_le_f (show mx_Sn _ _ 73 (mx_if_le 80 76) from sn_103 73) hd ?_
      refine mx_J.step (sn_103 76) (fun _ _ => rfl) ?_
      obtain ⟨h1, hca, V2, hY1, hk2⟩ := jl_137 hY hI
      refine Jcallv0 (b := 1) hY (show mx_Sn _ _ 77 (mx_callv 137 1 11 80) from sn_103 77) rfl (ic_1 hI) hca rfl rfl ?_
      have hY := hY1
      refine mx_J.step (sn_103 80) (fun _ _ => rfl) ?_
      exact mx_J.ret (sn_103 82) (fun _ _ => rfl) ⟨by rw [hres]; rfl, V2, hY, hk2⟩
  | r + 1, a, b, x, done, V, h, res, hY, hI, hab, hb, hres => by
    have ih := yc_loop (seed := seed) r
    refine mx_J.step (sn_103 40) (fun _ _ => rfl) ?_
    refine mx_J.step (sn_103 42) (fun _ _ => rfl) ?_
    refine Jicmp_ge_f (show mx_Sn _ _ 43 (mx_icmp_ge 71 46) from sn_103 43) (nI_ge (by omega) (by omega)) ?_
    refine mx_J.step (sn_103 46) (fun _ _ => rfl) ?_
    refine mx_J.step (sn_103 47) (fun _ _ => rfl) ?_
    refine Jgetf hY (show mx_Sn _ _ 48 (mx_getf 11 13 51) from sn_103 48) rfl (ic_1 hI) rfl ?_
    refine mx_J.step (sn_103 51) (fun _ _ => rfl) ?_
    obtain ⟨h1, hca, V2, hY1, hf2, e83⟩ := jt_13 hY (ic_83 hI)
    refine Jcallv (b := 83) hY (show mx_Sn _ _ 52 (mx_callv 13 1 1 55) from sn_103 52) rfl (ic_83 hI) hca rfl rfl ?_
    have hY := hY1
    have hI2 := hI.draw hf2 e83
    refine mx_J.step (sn_103 55) (fun _ _ => rfl) ?_
    obtain ⟨h1, w, hca, hw, V3, hY1, hI3⟩ := da_all hY hI2 (by omega) (nd_in x)
    refine Jcallv (b := 1) hY (show mx_Sn _ _ 56 (mx_callv 139 3 11 59) from sn_103 56) rfl (ic_1 hI2) hca rfl rfl ?_
    have hY := hY1
    by_cases hw0 : w = 0
    · refine Jif_ne_f (show mx_Sn _ _ 59 (mx_if_ne 65 62) from sn_103 59) (fun z => z hw0) ?_
      refine mx_J.step (sn_103 62) (fun _ _ => rfl) ?_
      refine mx_J.step (sn_103 65) (fun _ _ => rfl) ?_
      refine mx_J.step (sn_103 68) (fun _ _ => rfl) ?_
      show mx_J _ _ _ 40 [some (.ref 1), some (.int seed), some (.int (nI b)), some (.ref 83), some (.int (done + 1)), some (.int (nI a + 1))] [] _ _
      rw [nI_1]
      exact ih (a + 1) b (nd x).2 (done + 1) V3 _ res hY hI3 (by omega) hb (hres.trans (by show yr r (nd x).2 (if can (nd x).1 = true then done + 1 else done) = _; rw [if_pos (hw.mp hw0)]))
    · refine Jif_ne_t (show mx_Sn _ _ 59 (mx_if_ne 65 62) from sn_103 59) hw0 ?_
      refine mx_J.step (sn_103 65) (fun _ _ => rfl) ?_
      refine mx_J.step (sn_103 68) (fun _ _ => rfl) ?_
      show mx_J _ _ _ 40 [some (.ref 1), some (.int seed), some (.int (nI b)), some (.ref 83), some (.int done), some (.int (nI a + 1))] [] _ _
      rw [nI_1]
      exact ih (a + 1) b (nd x).2 done V3 _ res hY hI3 (by omega) hb (hres.trans (by show yr r (nd x).2 (if can (nd x).1 = true then done + 1 else done) = _; rw [if_neg (fun z => hw0 (hw.mpr z))]))
noncomputable abbrev T0 : mx_A := mx_rep (Value.int 0) 13
theorem vz_14 : VB 14 = ar 7315 T0 := vb_14
theorem vz_16 : VB 16 = ar 6498 T0 := vb_16
theorem vz_17 : VB 17 = ar 5 (mx_sl [(3, Value.int 1)] T0) := vb_17
theorem vz_19 : VB 19 = ar 19 T0 := vb_19
theorem vz_42 : VB 42 = ar 19 T0 := vb_42
theorem g17 : mx_get 13 (mx_sl [(3, Value.int 1)] T0) 4 = .int 0 := vq_ok (by decide +kernel)
theorem pcB : PC VB 1 := by
  have e : nI 1 = 1 := by decide +kernel
  refine ⟨⟨vb_0, vb_1, vb_7, vb_8, vb_9, vb_10, vb_37⟩, by rw [e]; exact vb_12, ⟨T0, vz_14, fun i _ => ⟨0, mx_get_rep _ 13 i, Or.inl rfl⟩⟩, ⟨T0, 0, vz_16, mx_get_rep _ 13 343, Or.inl rfl⟩, ⟨_, 0, vz_17, g17⟩, T0, vz_19, ai_rep⟩
set_option maxHeartbeats 300000 in
set_option maxRecDepth 100000 in
theorem yc_all {seed : Int32} {b : Nat} (h1b : 1 ≤ b) (hb : b ≤ 40) (hY : YH 83 62985 VB h) : ∃ h2, mx_Ca (tB l D b0 ad Hb tau) 30 103 [.ref 1, .int seed, .int (nI b)] h (some (.int (yr b seed 0)), h2) ∧ ∃ V2, YH 84 62986 V2 h2 ∧ KM V2 := by
  refine Jm (M := (prog_1_method_16_code, 6, "TitheHeap", "year", (Option.some Jvm.ClassFile.FieldType.int))) rfl rfl rfl rfl rfl ?_
  show mx_J _ _ _ 0 [some (.ref 1), some (.int seed), some (.int (nI b)), none, none, none] [] h _
  refine mx_J.step (sn_103 0) (fun _ _ => rfl) ?_
  refine mx_J.step (sn_103 1) (fun _ _ => rfl) ?_
  refine Jicmp_lt_f (show mx_Sn _ _ 2 (mx_icmp_lt 11 5) from sn_103 2) (by have h9 : ¬ nI b < nI 1 := nI_nlt (by omega) (by omega); exact h9) ?_
  refine mx_J.step (sn_103 5) (fun _ _ => rfl) ?_
  refine mx_J.step (sn_103 6) (fun _ _ => rfl) ?_
  refine Jicmp_le_t (show mx_Sn _ _ 8 (mx_icmp_le 14 11) from sn_103 8) (by have h9 : nI b ≤ nI 40 := nI_le (by omega) (by omega); exact h9) ?_
  refine mx_J.step (sn_103 14) (fun _ _ => rfl) ?_
  refine Jgetf hY (show mx_Sn _ _ 15 (mx_getf 11 13 18) from sn_103 15) rfl vb_1 rfl ?_
  refine mx_J.step (sn_103 18) (fun _ _ => rfl) ?_
  refine Jgetf hY (show mx_Sn _ _ 19 (mx_getf 11 12 22) from sn_103 19) rfl vb_1 rfl ?_
  obtain ⟨h1, hca, V2, hY1, hf2, e38⟩ := jt_33a (d := 28) hY (by decide) vb_38 vb_36
  refine Jcallv0 (b := 38) hY (show mx_Sn _ _ 22 (mx_callv 33 2 5 25) from sn_103 22) rfl vb_38 hca rfl rfl ?_
  have hY := hY1
  refine Jnew hY (show mx_Sn _ _ 25 (mx_new 1 1 [.int 0] 28) from sn_103 25) (by decide) (fun h hY => ?_)
  have hY : YH 84 62986 _ _ := hY
  refine mx_J.step (sn_103 28) (fun _ _ => rfl) ?_
  refine mx_J.step (sn_103 29) (fun _ _ => rfl) ?_
  obtain ⟨h1, hca, hY1⟩ := jt_11 (d2 := 27) (x := seed) hY rfl
  refine Jcalli (b := 83) (show mx_Sn _ _ 30 (mx_calli 11 2 33) from sn_103 30) hca rfl rfl ?_
  have hY := hY1
  refine mx_J.step (sn_103 33) (fun _ _ => rfl) ?_
  refine mx_J.step (sn_103 34) (fun _ _ => rfl) ?_
  refine mx_J.step (sn_103 35) (fun _ _ => rfl) ?_
  refine mx_J.step (sn_103 37) (fun _ _ => rfl) ?_
  refine mx_J.step (sn_103 38) (fun _ _ => rfl) ?_
  have hf := frY (l := [38, 83]) hY (fr.up (fr.up (hf2.mono (l2 := [38, 83]) rfl) rfl) rfl)
  have hI : IC _ (0 + 1) seed := ⟨1, 0, 0, T0, pcB.fr hf rfl, Nat.le_refl _, Nat.le_refl _, e38, (hf 42 rfl).trans vz_42, ai_rep, rfl, (hf 36 rfl).trans vb_36, (hf 40 rfl).trans vb_40, (hf 41 rfl).trans vb_41, KM.fr (fun _ _ _ => rfl) hf rfl⟩
  show mx_J _ _ _ 40 [some (.ref 1), some (.int seed), some (.int (nI b)), some (.ref 83), some (.int 0), some (.int 0)] [] _ _
  have h0 := yc_loop (l := l) (D := D) (b0 := b0) (ad := ad) (Hb := Hb) (tau := tau) (seed := seed) b 0 b seed 0 _ _ _ hY hI (by omega) hb rfl
  rw [nI_0] at h0
  exact h0
end WK4
