def PM3 (V : Nat → mx_C) : Prop := ∃ s mc w a c, V 56 = zc_56 ∧ V 57 = A57 s mc ∧ V 61 = zc_61 ∧ V 62 = H62 a ∧ V 65 = W65 c w ∧ V 66 = zc_66
theorem pm3_56 {V : Nat → mx_C} (h : PM3 V) : V 56 = zc_56 := by
  obtain ⟨s, mc, w, a, c, h56, -⟩ := h
  exact h56
theorem k65 (c : Bool) (t : UInt32) : (Nat.blt (65, W65s c t).1 83 && mx_nj (65, W65s c t).2) = true := rfl
theorem pe57n {s mc : Int32} {val : Nat → Int64} (h0 : val 0 = s.toInt64) (h1 : val 1 = mc.toInt64) : mx_pe (sgC (tS val) A57n) (ar 2886 (mx_set 13 (mx_set 13 (mx_set 13 T57 28 (.int s)) 29 (.int mc)) 30 (.int 1))) := by
  refine Or.inr ⟨.int, 2886, _, _, rfl, rfl, fun j hj => ?_⟩
  have j1 : j < 2 ^ 13 := by show j < 8192; omega
  rw [mx_get_map, mx_get_set _ 13 _ 30 j (by decide) j1, mx_get_set _ 13 _ 29 j (by decide) j1, mx_get_set _ 13 _ 28 j (by decide) j1, mx_get_set _ 13 _ 30 j (by decide) j1, mx_get_set _ 13 _ 29 j (by decide) j1, mx_get_set _ 13 _ 28 j (by decide) j1]
  by_cases c : j = 30
  · rw [if_pos c, if_pos c]; rfl
  · rw [if_neg c, if_neg c]
    by_cases a : j = 29
    · rw [if_pos a, if_pos a, sg_f (i := 1) rfl (by decide), h1, i32_64]
    · rw [if_neg a, if_neg a]
      by_cases b : j = 28
      · rw [if_pos b, if_pos b, sg_f (i := 0) rfl (by decide), h0, i32_64]
      · rw [if_neg b, if_neg b, nfv_ok (nfT_ok 13 T57 j nf57)]
section HM
variable {l : Launch} {D : va_G} {b0 : Nat} {ad : Nat → Nat} {Hb : Heap} {tau : Nat → Int64} {h : mx_H} {V : Nat → mx_C}
set_option maxRecDepth 1000000 in
theorem ek_m3_00 : rck 28 198 [.ref 56, .int 0, .int 0, .float 8] 83 62985 [(56, zc_56), (57, A57s), (61, zc_61), (62, H62 false), (65, W65s false 11)] (some (.int 0)) [(56, zc_56), (57, A57s), (61, zc_61), (62, H62 true), (65, W65s true 8)] = true := by decide +kernel
set_option maxRecDepth 1000000 in
theorem ek_m3_01 : rck 28 198 [.ref 56, .int 0, .int 0, .float 8] 83 62985 [(56, zc_56), (57, A57s), (61, zc_61), (62, H62 false), (65, W65s true 11)] (some (.int 0)) [(56, zc_56), (57, A57s), (61, zc_61), (62, H62 true), (65, W65s true 8)] = true := by decide +kernel
set_option maxRecDepth 1000000 in
theorem ek_m3_10 : rck 28 198 [.ref 56, .int 0, .int 0, .float 8] 83 62985 [(56, zc_56), (57, A57s), (61, zc_61), (62, H62 true), (65, W65s false 11)] (some (.int 0)) [(56, zc_56), (57, A57s), (61, zc_61), (62, H62 true), (65, W65s true 8)] = true := by decide +kernel
set_option maxRecDepth 1000000 in
theorem ek_m3_11 : rck 28 198 [.ref 56, .int 0, .int 0, .float 8] 83 62985 [(56, zc_56), (57, A57s), (61, zc_61), (62, H62 true), (65, W65s true 11)] (some (.int 0)) [(56, zc_56), (57, A57s), (61, zc_61), (62, H62 true), (65, W65s true 8)] = true := by decide +kernel
theorem ekm3 (a c : Bool) : rck 28 198 [.ref 56, .int 0, .int 0, .float 8] 83 62985 [(56, zc_56), (57, A57s), (61, zc_61), (62, H62 a), (65, W65s c 11)] (some (.int 0)) [(56, zc_56), (57, A57s), (61, zc_61), (62, H62 true), (65, W65s true 8)] = true := by
  cases a <;> cases c
  · exact ek_m3_00
  · exact ek_m3_01
  · exact ek_m3_10
  · exact ek_m3_11
theorem mt3 {s mc w : Int32} {a c : Bool} (hY : YH 83 62985 V h) (h56 : V 56 = zc_56) (h57 : V 57 = A57 s mc) (h61 : V 61 = zc_61) (h62 : V 62 = H62 a) (h65 : V 65 = W65 c w) : ∃ h2, mx_Ca (tB l D b0 ad Hb tau) 28 198 [.ref 56, .int 0, .int 0, .int s] h (some (.int 0), h2) ∧ YH 83 62985 (upV (upV V 62 (H62 true)) 65 (W65 true s)) h2 := by
  have k57 : mx_pe (A57 s mc) (sgC (tS (fun i => if i = 0 then s.toInt64 else if i = 1 then mc.toInt64 else w.toInt64)) A57s) := pe57 rfl rfl
  have k65a : mx_pe (W65 c w) (sgC (tS (fun i => if i = 0 then s.toInt64 else if i = 1 then mc.toInt64 else w.toInt64)) (W65s c 11)) := pe65 (i := 3) rfl (by decide) rfl
  have q65 : mx_pe (sgC (tS (fun i => if i = 0 then s.toInt64 else if i = 1 then mc.toInt64 else w.toInt64)) (W65s true 8)) (W65 true s) := (pe65 (i := 0) rfl (by decide) rfl).symm
  have k8 := sg8 (s := s) (val := fun i => if i = 0 then s.toInt64 else if i = 1 then mc.toInt64 else w.toInt64) (dv := 0) rfl
  generalize (fun i => if i = 0 then s.toInt64 else if i = 1 then mc.toInt64 else w.toInt64) = vl at k57 k65a q65 k8
  have e62 : (upV (upV V 62 (H62 true)) 65 (W65 true s)) 62 = H62 true := (up_ne rfl).trans up_eq
  have e56 : (upV (upV V 62 (H62 true)) 65 (W65 true s)) 56 = zc_56 := (up_ne rfl).trans ((up_ne rfl).trans h56)
  have e57 : (upV (upV V 62 (H62 true)) 65 (W65 true s)) 57 = A57 s mc := (up_ne rfl).trans ((up_ne rfl).trans h57)
  have e61 : (upV (upV V 62 (H62 true)) 65 (W65 true s)) 61 = zc_61 := (up_ne rfl).trans ((up_ne rfl).trans h61)
  exact YT vl (upV (upV V 62 (H62 true)) 65 (W65 true s)) (ekm3 a c) k8 sgo0 hY ⟨⟨rfl, pe_of h56 nfc_56⟩, ⟨rfl, pe_eql h57 k57⟩, ⟨rfl, pe_of h61 nfc_61⟩, ⟨k62 a, pe_of h62 (nfH62 a)⟩, ⟨k65 c 11, pe_eql h65 k65a⟩, True.intro⟩ ⟨pe_to e56 nfc_56, (pe_eql e57 k57).symm, pe_to e61 nfc_61, pe_to e62 (nfH62 true), q65, True.intro⟩ (fun k hk => (up_no (a := 65) rfl hk).trans (up_no (a := 62) rfl hk))
set_option maxRecDepth 1000000 in
theorem nf3_66 : (Nat.blt (66, zc_66).1 83 && (mx_nj (66, zc_66).2 && nfC (66, zc_66).2)) = true := by decide +kernel
set_option maxRecDepth 1000000 in
theorem ek_st3 : rck 29 202 [.ref 56] 83 62985 [(56, zc_56), (57, zc_57), (66, zc_66)] none [(56, zc_56), (57, zc_57), (66, zc_66)] = true := by decide +kernel
theorem cl_st3 (hY : YH 83 62985 V h) (h56 : V 56 = zc_56) (h57 : V 57 = zc_57) (h66 : V 66 = zc_66) : ∃ h2, mx_Ca (tB l D b0 ad Hb tau) 29 202 [.ref 56] h (none, h2) ∧ YH 83 62985 V h2 := YT0 ek_st3 rfl rfl hY ⟨⟨nf3_56, h56⟩, ⟨nf3_57, h57⟩, ⟨nf3_66, h66⟩, True.intro⟩
set_option maxRecDepth 1000000 in
theorem ek_no3 : rck 29 204 [.ref 56] 83 62985 [(56, zc_56), (57, A57s), (66, zc_66)] none [(56, zc_56), (57, A57n), (66, zc_66)] = true := by decide +kernel
theorem cl_no3 {s mc : Int32} (hY : YH 83 62985 V h) (h56 : V 56 = zc_56) (h57 : V 57 = A57 s mc) (h66 : V 66 = zc_66) : ∃ h2, mx_Ca (tB l D b0 ad Hb tau) 29 204 [.ref 56] h (none, h2) ∧ YH 83 62985 (upV V 57 (ar 2886 (mx_set 13 (mx_set 13 (mx_set 13 T57 28 (.int s)) 29 (.int mc)) 30 (.int 1)))) h2 := by
  have e56 : (upV V 57 (ar 2886 (mx_set 13 (mx_set 13 (mx_set 13 T57 28 (.int s)) 29 (.int mc)) 30 (.int 1)))) 56 = zc_56 := (up_ne rfl).trans h56
  have e66 : (upV V 57 (ar 2886 (mx_set 13 (mx_set 13 (mx_set 13 T57 28 (.int s)) 29 (.int mc)) 30 (.int 1)))) 66 = zc_66 := (up_ne rfl).trans h66
  have k57 : mx_pe (A57 s mc) (sgC (tS (fun i => if i = 0 then s.toInt64 else mc.toInt64)) A57s) := pe57 rfl rfl
  have n57 : mx_pe (sgC (tS (fun i => if i = 0 then s.toInt64 else mc.toInt64)) A57n) (ar 2886 (mx_set 13 (mx_set 13 (mx_set 13 T57 28 (.int s)) 29 (.int mc)) 30 (.int 1))) := pe57n rfl rfl
  exact YT (fun i => if i = 0 then s.toInt64 else mc.toInt64) _ ek_no3 rfl rfl hY ⟨⟨rfl, pe_of h56 nfc_56⟩, ⟨rfl, pe_eql h57 k57⟩, ⟨rfl, pe_of h66 nfc_66⟩, True.intro⟩ ⟨pe_to e56 nfc_56, n57, pe_to e66 nfc_66, True.intro⟩ (fun k hk => up_no (a := 57) rfl hk)
set_option maxHeartbeats 300000 in
set_option maxRecDepth 100000 in
theorem gm3 (hY : YH 83 62985 V h) (hM : PM3 V) : ∃ h2, mx_Ca (tB l D b0 ad Hb tau) 29 205 [.ref 56, .int 0] h (none, h2) ∧ ∃ V2, YH 83 62985 V2 h2 ∧ PM3 V2 := by
  obtain ⟨s, mc, w, a, c, h56, h57, h61, h62, h65, h66⟩ := hM
  have h57 : V 57 = ar 2886 (mx_set 13 (mx_set 13 T57 28 (.int s)) 29 (.int mc)) := h57
  refine Jm (M := (prog_14_method_53_code, 2, "TitheHeapModel", "goesMoon", (Option.none : Option Jvm.ClassFile.FieldType))) rfl rfl rfl rfl rfl ?_
  show mx_J _ _ _ 0 [some (.ref 56), some (.int 0)] [] h _
  refine mx_J.step (sn_205 0) (fun _ _ => rfl) ?_
  refine Jgetf hY (show mx_Sn _ _ 1 (mx_getf 12 1 4) from sn_205 1) rfl h56 rfl ?_
  refine mx_J.step (sn_205 4) (fun _ _ => rfl) ?_
  refine mx_J.step (sn_205 6) (fun _ _ => rfl) ?_
  refine mx_J.step (sn_205 7) (fun _ _ => rfl) ?_
  refine Jgetf hY (show mx_Sn _ _ 8 (mx_getf 12 1 11) from sn_205 8) rfl h56 rfl ?_
  refine mx_J.step (sn_205 11) (fun _ _ => rfl) ?_
  refine Jiald (i := 27) hY (show mx_Sn _ _ 13 (mx_iald 14) from sn_205 13) rfl h57 (by decide +kernel) (e57_27) ?_
  refine mx_J.step (sn_205 14) (fun _ _ => rfl) ?_
  refine mx_J.step (sn_205 15) (fun _ _ => rfl) ?_
  refine Jgetf hY (show mx_Sn _ _ 16 (mx_getf 12 1 19) from sn_205 16) rfl h56 rfl ?_
  refine mx_J.step (sn_205 19) (fun _ _ => rfl) ?_
  refine Jiald (i := 28) hY (show mx_Sn _ _ 21 (mx_iald 22) from sn_205 21) rfl h57 (by decide +kernel) (e57_28) ?_
  obtain ⟨h1, hca, hY1⟩ := mt3 (l := l) (D := D) (b0 := b0) (ad := ad) (Hb := Hb) (tau := tau) hY h56 h57 h61 h62 h65
  refine Jcallv (b := 56) hY (show mx_Sn _ _ 22 (mx_callv 198 4 12 25) from sn_205 22) rfl h56 hca rfl rfl ?_
  have hY := hY1
  refine Jiast (i := 27) hY (show mx_Sn _ _ 25 (mx_iast 1 26) from sn_205 25) rfl rfl h57 (by decide +kernel) (by decide) (fun h hY => ?_)
  refine mx_J.step (sn_205 26) (fun _ _ => rfl) ?_
  refine Jgetf hY (show mx_Sn _ _ 27 (mx_getf 12 1 30) from sn_205 27) rfl h56 rfl ?_
  refine mx_J.step (sn_205 30) (fun _ _ => rfl) ?_
  refine mx_J.step (sn_205 32) (fun _ _ => rfl) ?_
  refine Jiald (i := 29) hY (show mx_Sn _ _ 33 (mx_iald 34) from sn_205 33) rfl rfl (by decide +kernel) ((gs_ne (by decide) (by decide) (by decide)).trans (e57_29)) ?_
  refine mx_J.step (sn_205 34) (fun _ _ => rfl) ?_
  refine mx_J.step (sn_205 35) (fun _ _ => rfl) ?_
  refine Jiast (i := 29) hY (show mx_Sn _ _ 36 (mx_iast 1 37) from sn_205 36) rfl rfl rfl (by decide +kernel) (by decide) (fun h hY => ?_)
  have hY := hY.re pe57m
  have hf := frY (l := [57, 62, 65]) hY (fr.up (fr.up (fr.up (fr.up fr.rfl' rfl) rfl) rfl) rfl)
  exact mx_J.ret (sn_205 37) (fun _ _ => rfl) ⟨rfl, _, hY, s, mc + 1, s, true, true, (hf 56 rfl).trans h56, up_eq, (hf 61 rfl).trans h61, (up_ne rfl).trans ((up_ne rfl).trans ((up_ne rfl).trans up_eq)), (up_ne rfl).trans ((up_ne rfl).trans up_eq), (hf 66 rfl).trans h66⟩
set_option maxHeartbeats 300000 in
set_option maxRecDepth 100000 in
theorem mo_loop : ∀ (r a b : Nat) (V : Nat → mx_C) (h : mx_H), a + r = b → b ≤ 99 → YH 83 62985 V h → PM3 V → mx_J (tB l D b0 ad Hb tau) (prog_14_method_55_code, 3, "TitheHeapModel", "moons", (Option.some Jvm.ClassFile.FieldType.int)) 29 26 [some (.ref 56), some (.int (nI b)), some (.int (nI a))] [] h (fun q => q.1 = some (.int 1) ∧ ∃ V2, YH 83 62985 V2 q.2)
  | 0, a, b, V, h, hab, hb, hY, hM => by
    obtain rfl : a = b := by omega
    have h56 := pm3_56 hM
    refine mx_J.step (sn_207 26) (fun _ _ => rfl) ?_
    refine mx_J.step (sn_207 27) (fun _ _ => rfl) ?_
    refine Jicmp_ge_t (show mx_Sn _ _ 28 (mx_icmp_ge 42 31) from sn_207 28) (nI_le (Nat.le_refl _) (by omega)) ?_
    refine mx_J.step (sn_207 42) (fun _ _ => rfl) ?_
    obtain ⟨s, mc, w, a2, c, h56, h57, h61, h62, h65, h66⟩ := hM
    obtain ⟨h1, hca, hY1⟩ := cl_no3 (l := l) (D := D) (b0 := b0) (ad := ad) (Hb := Hb) (tau := tau) hY h56 h57 h66
    refine Jcallv0 (b := 56) hY (show mx_Sn _ _ 43 (mx_callv 204 1 12 46) from sn_207 43) rfl h56 hca rfl rfl ?_
    have hY := hY1
    refine mx_J.step (sn_207 46) (fun _ _ => rfl) ?_
    refine mx_J.step (sn_207 47) (fun _ _ => rfl) ?_
    refine Jgetf hY (show mx_Sn _ _ 48 (mx_getf 12 1 51) from sn_207 48) rfl h56 rfl ?_
    refine mx_J.step (sn_207 51) (fun _ _ => rfl) ?_
    refine Jiald (i := 27) hY (show mx_Sn _ _ 53 (mx_iald 54) from sn_207 53) rfl rfl (by decide +kernel) ((gs_ne (by decide) (by decide) (by decide)).trans ((gs_ne (by decide) (by decide) (by decide)).trans ((gs_ne (by decide) (by decide) (by decide)).trans g57))) ?_
    obtain ⟨h1, hca, hY1⟩ := mi_29 (l := l) (D := D) (b0 := b0) (ad := ad) (Hb := Hb) (tau := tau) hY ((up_ne rfl).trans h56) ((up_ne rfl).trans h61)
    refine Jcallv (b := 56) hY (show mx_Sn _ _ 54 (mx_callv 191 2 12 57) from sn_207 54) rfl h56 hca rfl rfl ?_
    have hY := hY1
    exact mx_J.ret (sn_207 57) (fun _ _ => rfl) ⟨rfl, _, hY⟩
  | r + 1, a, b, V, h, hab, hb, hY, hM => by
    refine mx_J.step (sn_207 26) (fun _ _ => rfl) ?_
    refine mx_J.step (sn_207 27) (fun _ _ => rfl) ?_
    refine Jicmp_ge_f (show mx_Sn _ _ 28 (mx_icmp_ge 42 31) from sn_207 28) (nI_ge (by omega) (by omega)) ?_
    refine mx_J.step (sn_207 31) (fun _ _ => rfl) ?_
    refine mx_J.step (sn_207 32) (fun _ _ => rfl) ?_
    obtain ⟨h1, hca, V2, hY1, hM2⟩ := gm3 (l := l) (D := D) (b0 := b0) (ad := ad) (Hb := Hb) (tau := tau) hY hM
    refine Jcallv0 (b := 56) hY (show mx_Sn _ _ 33 (mx_callv 205 2 12 36) from sn_207 33) rfl (pm3_56 hM) hca rfl rfl ?_
    have hY := hY1
    refine mx_J.step (sn_207 36) (fun _ _ => rfl) ?_
    refine mx_J.step (sn_207 39) (fun _ _ => rfl) ?_
    show mx_J _ _ _ 26 [some (.ref 56), some (.int (nI b)), some (.int (nI a + 1))] [] _ _
    rw [nI_1]
    exact mo_loop r (a + 1) b V2 h1 (by omega) hb hY hM2
set_option maxRecDepth 100000 in
theorem lgm : ∀ b, b < 100 → 1 ≤ b → ¬ lg_cmp (nI b).toInt64 1 < 0 ∧ ¬ 0 < lg_cmp (nI b).toInt64 99 := by decide +kernel
set_option maxHeartbeats 300000 in
set_option maxRecDepth 100000 in
theorem mo_all {b : Nat} (h1b : 1 ≤ b) (hb : b < 100) (hY : YH 83 62985 V h) (hK : KM V) : ∃ h2, mx_Ca (tB l D b0 ad Hb tau) 30 207 [.ref 56, .int (nI b)] h (some (.int 1), h2) ∧ ∃ V2, YH 83 62985 V2 h2 := by
  have h56 : V 56 = zc_56 := (hK 56 (by decide) (by decide)).trans vb_56
  have h57 : V 57 = zc_57 := (hK 57 (by decide) (by decide)).trans vb_57
  have h61 : V 61 = zc_61 := (hK 61 (by decide) (by decide)).trans vb_61
  have h62 : V 62 = H62 false := ((hK 62 (by decide) (by decide)).trans vb_62).trans h62f
  have h65 : V 65 = zc_65 := (hK 65 (by decide) (by decide)).trans vb_65
  have h76 : V 76 = zc_76 := (hK 76 (by decide) (by decide)).trans rfl
  have h77 : V 77 = zc_77 := (hK 77 (by decide) (by decide)).trans rfl
  have h66 : V 66 = zc_66 := (hK 66 (by decide) (by decide)).trans vb_66
  refine Jm (M := (prog_14_method_55_code, 3, "TitheHeapModel", "moons", (Option.some Jvm.ClassFile.FieldType.int))) rfl rfl rfl rfl rfl ?_
  show mx_J _ _ _ 0 [some (.ref 56), some (.int (nI b)), none] [] h _
  refine mx_J.step (sn_207 0) (fun _ _ => rfl) ?_
  refine mx_J.step (sn_207 1) (fun _ _ => rfl) ?_
  refine Jputf hY (show mx_Sn _ _ 2 (mx_putf 1 12 0 (.int) 5) from sn_207 2) rfl rfl h56 rfl (fun h hY => ?_)
  refine mx_J.step (sn_207 5) (fun _ _ => rfl) ?_
  refine mx_J.step (sn_207 6) (fun _ _ => rfl) ?_
  refine mx_J.step (sn_207 7) (fun _ _ => rfl) ?_
  refine mx_J.step (sn_207 8) (fun _ _ => rfl) ?_
  obtain ⟨h1, hca, hY1⟩ := jw (l := l) (D := D) (b0 := b0) (ad := ad) (Hb := Hb) (tau := tau) (d := 28) hY (lgm b hb h1b).1 (lgm b hb h1b).2
  refine Jcalls (show mx_Sn _ _ 11 (mx_calls 154 3 14) from sn_207 11) hca rfl rfl ?_
  have hY := hY1
  refine Jif_ne_t (show mx_Sn _ _ 14 (mx_if_ne 20 17) from sn_207 14) (by decide +kernel) ?_
  refine mx_J.step (sn_207 20) (fun _ _ => rfl) ?_
  obtain ⟨h1, hca, hY1⟩ := cl_st3 (l := l) (D := D) (b0 := b0) (ad := ad) (Hb := Hb) (tau := tau) hY rfl h57 h66
  refine Jcallv0 (b := 56) hY (show mx_Sn _ _ 21 (mx_callv 202 1 12 24) from sn_207 21) rfl rfl hca rfl rfl ?_
  have hY := hY1
  refine mx_J.step (sn_207 24) (fun _ _ => rfl) ?_
  refine mx_J.step (sn_207 25) (fun _ _ => rfl) ?_
  have hf := frY (l := [56]) hY (fr.up fr.rfl' rfl)
  have hY := hY.alt (a := 57) (c := A57 0 0) (pe_eql ((hf 57 rfl).trans h57) q57)
  have hY := hY.alt (a := 65) (c := W65 false 0) (pe_eql ((up_ne rfl).trans ((hf 65 rfl).trans h65)) q65z)
  have hM : PM3 _ := ⟨0, 0, 0, false, false, (up_ne rfl).trans ((up_ne rfl).trans up_eq), (up_ne rfl).trans up_eq, (up_ne rfl).trans ((up_ne rfl).trans ((hf 61 rfl).trans h61)), (up_ne rfl).trans ((up_ne rfl).trans ((hf 62 rfl).trans h62)), up_eq, (up_ne rfl).trans ((up_ne rfl).trans ((hf 66 rfl).trans h66))⟩
  show mx_J _ _ _ 26 [some (.ref 56), some (.int (nI b)), some (.int (nI 0))] [] _ _
  exact mo_loop b 0 b _ _ (by omega) (by omega) hY hM
end HM
