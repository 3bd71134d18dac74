section WY
variable {l : Launch} {D : va_G} {b0 : Nat} {ad : Nat → Nat} {Hb : Heap} {tau : Nat → Int64} {h : mx_H} {V : Nat → mx_C}
set_option maxHeartbeats 300000 in
set_option maxRecDepth 100000 in
theorem ym_loop {seed : Int32} : ∀ (r a b : Nat) (x done : Int32) (lv : Option Value) (V : Nat → mx_C) (h : mx_H) (res : Int32), YH 84 62986 V h → PM V x → a + r = b → b ≤ 40 → res = yr r x done → mx_J (tB l D b0 ad Hb tau) (prog_14_method_73_code, 6, "TitheHeapModel", "year", (Option.some Jvm.ClassFile.FieldType.int)) 29 34 [some (.ref 56), some (.int seed), some (.int (nI b)), some (.int done), some (.int (nI a)), lv] [] h (fun q => q.1 = some (.int res) ∧ ∃ V2, YH 84 62986 V2 q.2)
  | 0, a, b, x, done, lv, V, h, res, hY, hM, hab, hb, hres => by
    obtain rfl : a = b := by omega
    refine mx_J.step (sn_225 34) (fun _ _ => rfl) ?_
    refine mx_J.step (sn_225 36) (fun _ _ => rfl) ?_
    refine Jicmp_ge_t (show mx_Sn _ _ 37 (mx_icmp_ge 74 40) from sn_225 37) (nI_le (Nat.le_refl _) (by omega)) ?_
    refine mx_J.step (sn_225 74) (fun _ _ => rfl) ?_
    by_cases hd : done ≤ 0
    · refine Jif_le_t (show mx_Sn _ _ 75 (mx_if_le 82 78) from sn_225 75) hd ?_
      refine mx_J.step (sn_225 82) (fun _ _ => rfl) ?_
      exact mx_J.ret (sn_225 83) (fun _ _ => rfl) ⟨by rw [hres]; rfl, V, hY⟩
    · refine Jif_le_f (show mx_Sn _ _ 75 (mx_if_le 82 78) from sn_225 75) hd ?_
      refine mx_J.step (sn_225 78) (fun _ _ => rfl) ?_
      obtain ⟨s, mc, w, a2, c, h56, h57, h61, h62, h65, h66⟩ := id hM
      obtain ⟨h1, hca, V2, hY1⟩ := cl_no (l := l) (D := D) (b0 := b0) (ad := ad) (Hb := Hb) (tau := tau) hY h56 h57 h66
      refine Jcallv0 (b := 56) hY (show mx_Sn _ _ 79 (mx_callv 204 1 12 82) from sn_225 79) rfl (pm_56 hM) hca rfl rfl ?_
      have hY := hY1
      refine mx_J.step (sn_225 82) (fun _ _ => rfl) ?_
      exact mx_J.ret (sn_225 83) (fun _ _ => rfl) ⟨by rw [hres]; rfl, V2, hY⟩
  | r + 1, a, b, x, done, lv, V, h, res, hY, hM, hab, hb, hres => by
    have ih := ym_loop (seed := seed) r
    refine mx_J.step (sn_225 34) (fun _ _ => rfl) ?_
    refine mx_J.step (sn_225 36) (fun _ _ => rfl) ?_
    refine Jicmp_ge_f (show mx_Sn _ _ 37 (mx_icmp_ge 74 40) from sn_225 37) (nI_ge (by omega) (by omega)) ?_
    refine mx_J.step (sn_225 40) (fun _ _ => rfl) ?_
    obtain ⟨h1, hca, V2, hY1, hf2, e56⟩ := jm_n (l := l) (D := D) (b0 := b0) (ad := ad) (Hb := Hb) (tau := tau) hY (pm_56 hM)
    refine Jcallv (b := 56) hY (show mx_Sn _ _ 41 (mx_callv 224 1 12 44) from sn_225 41) rfl (pm_56 hM) hca rfl rfl ?_
    have hY := hY1
    have hM2 := hM.draw hf2 e56
    refine mx_J.step (sn_225 44) (fun _ _ => rfl) ?_
    refine mx_J.step (sn_225 46) (fun _ _ => rfl) ?_
    refine mx_J.step (sn_225 47) (fun _ _ => rfl) ?_
    refine mx_J.step (sn_225 49) (fun _ _ => rfl) ?_
    obtain ⟨h1, w, hca, hw, hY1⟩ := wn_all (l := l) (D := D) (b0 := b0) (ad := ad) (Hb := Hb) (tau := tau) hY hM2 (nd_in x)
    refine Jcallv (b := 56) hY (show mx_Sn _ _ 50 (mx_callv 217 2 12 53) from sn_225 50) rfl (pm_56 hM2) hca rfl rfl ?_
    have hY := hY1
    by_cases hw0 : w = 0
    · refine Jif_eq_t (show mx_Sn _ _ 53 (mx_if_eq 59 56) from sn_225 53) hw0 ?_
      refine mx_J.step (sn_225 59) (fun _ _ => rfl) ?_
      refine mx_J.step (sn_225 60) (fun _ _ => rfl) ?_
      obtain ⟨h1, hca, V3, hY1, hM3⟩ := dz_all (l := l) (D := D) (b0 := b0) (ad := ad) (Hb := Hb) (tau := tau) hY hM2 (nd_in x) (hw.mp hw0)
      refine Jcallv0 (b := 56) hY (show mx_Sn _ _ 62 (mx_callv 218 2 12 65) from sn_225 62) rfl (pm_56 hM2) hca rfl rfl ?_
      have hY := hY1
      refine mx_J.step (sn_225 65) (fun _ _ => rfl) ?_
      refine mx_J.step (sn_225 68) (fun _ _ => rfl) ?_
      refine mx_J.step (sn_225 71) (fun _ _ => rfl) ?_
      show mx_J _ _ _ 34 [some (.ref 56), some (.int seed), some (.int (nI b)), some (.int (done + 1)), some (.int (nI a + 1)), some (.int (nd x).1)] [] _ _
      rw [nI_1]
      exact ih (a + 1) b (nd x).2 (done + 1) _ V3 _ res hY hM3 (by omega) hb (hres.trans (by show yr r (nd x).2 (if can (nd x).1 = true then done + 1 else done) = _; rw [if_pos (hw.mp hw0)]))
    · refine Jif_eq_f (show mx_Sn _ _ 53 (mx_if_eq 59 56) from sn_225 53) hw0 ?_
      refine mx_J.step (sn_225 56) (fun _ _ => rfl) ?_
      refine mx_J.step (sn_225 68) (fun _ _ => rfl) ?_
      refine mx_J.step (sn_225 71) (fun _ _ => rfl) ?_
      show mx_J _ _ _ 34 [some (.ref 56), some (.int seed), some (.int (nI b)), some (.int done), some (.int (nI a + 1)), some (.int (nd x).1)] [] _ _
      rw [nI_1]
      exact ih (a + 1) b (nd x).2 done _ V2 _ res hY hM2 (by omega) hb (hres.trans (by show yr r (nd x).2 (if can (nd x).1 = true then done + 1 else done) = _; rw [if_neg (fun z => hw0 (hw.mpr z))]))
set_option maxHeartbeats 300000 in
set_option maxRecDepth 100000 in
theorem ym_all {seed : Int32} {b : Nat} (h1b : 1 ≤ b) (hb : b ≤ 40) (hY : YH 84 62986 V h) (hK : KM V) : ∃ h2, mx_Ca (tB l D b0 ad Hb tau) 30 225 [.ref 56, .int seed, .int (nI b)] h (some (.int (yr b seed 0)), h2) ∧ ∃ V2, YH 84 62986 V2 h2 := by
  have h56 : V 56 = zc_56 := (hK 56 (by decide) (by decide)).trans vb_56
  have h57 : V 57 = zc_57 := (hK 57 (by decide) (by decide)).trans vb_57
  have h61 : V 61 = zc_61 := (hK 61 (by decide) (by decide)).trans vb_61
  have h62 : V 62 = zc_62 := (hK 62 (by decide) (by decide)).trans vb_62
  have h65 : V 65 = zc_65 := (hK 65 (by decide) (by decide)).trans vb_65
  have h66 : V 66 = zc_66 := (hK 66 (by decide) (by decide)).trans vb_66
  refine Jm (M := (prog_14_method_73_code, 6, "TitheHeapModel", "year", (Option.some Jvm.ClassFile.FieldType.int))) rfl rfl rfl rfl rfl ?_
  show mx_J _ _ _ 0 [some (.ref 56), some (.int seed), some (.int (nI b)), none, none, none] [] h _
  refine mx_J.step (sn_225 0) (fun _ _ => rfl) ?_
  refine mx_J.step (sn_225 1) (fun _ _ => rfl) ?_
  refine Jputf hY (show mx_Sn _ _ 2 (mx_putf 1 12 0 (.int) 5) from sn_225 2) rfl rfl h56 rfl (fun h hY => ?_)
  refine mx_J.step (sn_225 5) (fun _ _ => rfl) ?_
  refine mx_J.step (sn_225 6) (fun _ _ => rfl) ?_
  refine mx_J.step (sn_225 7) (fun _ _ => rfl) ?_
  refine mx_J.step (sn_225 8) (fun _ _ => rfl) ?_
  obtain ⟨h1, hca, hY1⟩ := jm_w (l := l) (D := D) (b0 := b0) (ad := ad) (Hb := Hb) (tau := tau) (d := 28) hY h1b (by omega)
  refine Jcalls (show mx_Sn _ _ 11 (mx_calls 154 3 14) from sn_225 11) hca rfl rfl ?_
  have hY := hY1
  refine Jif_ne_t (show mx_Sn _ _ 14 (mx_if_ne 20 17) from sn_225 14) (by decide +kernel) ?_
  refine mx_J.step (sn_225 20) (fun _ _ => rfl) ?_
  obtain ⟨h1, hca, hY1⟩ := cl_st (l := l) (D := D) (b0 := b0) (ad := ad) (Hb := Hb) (tau := tau) hY rfl h57 h66
  refine Jcallv0 (b := 56) hY (show mx_Sn _ _ 21 (mx_callv 202 1 12 24) from sn_225 21) rfl rfl hca rfl rfl ?_
  have hY := hY1
  refine mx_J.step (sn_225 24) (fun _ _ => rfl) ?_
  refine mx_J.step (sn_225 25) (fun _ _ => rfl) ?_
  refine Jputf hY (show mx_Sn _ _ 26 (mx_putf 1 12 23 (.int) 29) from sn_225 26) rfl rfl rfl rfl (fun h hY => ?_)
  refine mx_J.step (sn_225 29) (fun _ _ => rfl) ?_
  refine mx_J.step (sn_225 30) (fun _ _ => rfl) ?_
  refine mx_J.step (sn_225 31) (fun _ _ => rfl) ?_
  refine mx_J.step (sn_225 32) (fun _ _ => rfl) ?_
  have hf := frY (l := [56]) hY (fr.up (fr.up fr.rfl' rfl) rfl)
  have hY := hY.alt (a := 57) (c := A57 0 0) (pe_eql ((hf 57 rfl).trans h57) q57)
  have hY := hY.alt (a := 65) (c := W65 false 0) (pe_eql ((up_ne rfl).trans ((hf 65 rfl).trans h65)) q65z)
  have hM : PM _ seed := ⟨0, 0, 0, false, false, (up_ne rfl).trans ((up_ne rfl).trans up_eq), (up_ne rfl).trans up_eq, (up_ne rfl).trans ((up_ne rfl).trans ((hf 61 rfl).trans h61)), (up_ne rfl).trans ((up_ne rfl).trans ((hf 62 rfl).trans (h62.trans h62f))), up_eq, (up_ne rfl).trans ((up_ne rfl).trans ((hf 66 rfl).trans h66))⟩
  show mx_J _ _ _ 34 [some (.ref 56), some (.int seed), some (.int (nI b)), some (.int 0), some (.int 0), none] [] _ _
  have h0 := ym_loop (l := l) (D := D) (b0 := b0) (ad := ad) (Hb := Hb) (tau := tau) (seed := seed) b 0 b seed 0 none _ _ _ hY hM (by omega) hb rfl
  rw [nI_0] at h0
  exact h0
end WY
noncomputable def cv_14_1 : List Value := [.float (mx_t 1 59 58)]
noncomputable def cv_14_2 : List Value := [.float (mx_t 2 59 2)] ++ (pts 1 40 ++ [.float (mx_t 2 43 58)])
set_option maxRecDepth 1000000 in
theorem cc_14_1 : mx_cov 1 (-2147483648) cv_14_1 = true := by decide +kernel
set_option maxRecDepth 1000000 in
theorem cc_14_2 : mx_cov 2 (-2147483648) cv_14_2 = true := by decide +kernel
set_option maxRecDepth 1000000 in
theorem ek_14 : (ck2 false 103 225 [.float (mx_t 1 59 58), .float (mx_t 2 59 2)] && ck2 false 103 225 [.float (mx_t 1 59 58), .float (mx_t 2 43 58)]) = true := by decide +kernel
section TW3
variable {s : State} {l : Launch} {D : va_G} {a0 : Nat} {ag : Nat → Int64} {xs : Nat → Int32}
theorem tw_14 (hag : (∀ i, 1 ≤ i → i ≤ 5 → ag i = (xs i).toInt64) ∧ ag 6 = ((xs 1).toInt64 <<< ((32 : Int32).toInt64 &&& 63) ||| ((xs 2).toInt64 &&& 4294967295)) ∧ ag 7 = ((xs 3).toInt64 <<< ((32 : Int32).toInt64 &&& 63) ||| ((xs 4).toInt64 &&& 4294967295))) : ∃ as : List Value, as.map (mx_v (tB l D s.heap.size (fun _ => a0) s.heap (mx_tau ag)).2.1.1) = [.int (xs 1), .int (xs 2)] ∧ as.length = 2 ∧ mx_Tw (tB l D s.heap.size (fun _ => a0) s.heap (mx_tau ag)) false 103 225 as := by
  obtain ⟨a, ha, ea⟩ := mx_cov_all (E := (tB l D s.heap.size (fun _ => a0) s.heap (mx_tau ag)).2.1.1) rfl (p := 1) (hag.1 1 (by decide) (by decide)) cc_14_1
  obtain ⟨b, hb, eb⟩ := mx_cov_all (E := (tB l D s.heap.size (fun _ => a0) s.heap (mx_tau ag)).2.1.1) rfl (p := 2) (hag.1 2 (by decide) (by decide)) cc_14_2
  have ha : a = .float (mx_t 1 59 58) := List.mem_singleton.mp ha
  rcases List.mem_append.mp hb with hb | hb
  · have hb : b = .float (mx_t 2 59 2) := List.mem_singleton.mp hb
    refine ⟨[a, b], by simp only [List.map_cons, List.map_nil, ea, eb], rfl, ck2_ok ?_⟩
    rw [ha, hb]
    exact (mx_and ek_14).1
  · rcases List.mem_append.mp hb with hb | hb
    · obtain ⟨k, hk, e⟩ := List.mem_map.mp hb
      have hk := List.mem_range.mp hk
      rw [← e] at eb
      have e2 : nI (1 + k) = xs 2 := by
        have eb : Value.int (nI (1 + k)) = Value.int (xs 2) := eb
        injection eb
      obtain ⟨q1, hc1, V1, hY1, hK1⟩ := yc_all (l := l) (D := D) (b0 := s.heap.size) (ad := fun _ => a0) (Hb := s.heap) (tau := mx_tau ag) (seed := xs 1) (b := 1 + k) (by omega) (by omega) YB
      obtain ⟨q2, hc2, V2, hY2⟩ := ym_all (l := l) (D := D) (b0 := s.heap.size) (ad := fun _ => a0) (Hb := s.heap) (tau := mx_tau ag) (seed := xs 1) (b := 1 + k) (by omega) (by omega) hY1 hK1
      refine ⟨[.int (xs 1), .int (nI (1 + k))], by rw [e2]; rfl, rfl, ⟨.int (yr (1 + k) (xs 1) 0), q1, q2, _, hc1, hc2, hY1.cell rfl ((hK1 56 (by decide) (by decide)).trans vb_56), ?_, ?_, ⟨_, rfl⟩⟩⟩
      · rw [hY2.1]; decide
      · rw [hY2.2.1]; decide
    · have hb : b = .float (mx_t 2 43 58) := List.mem_singleton.mp hb
      refine ⟨[a, b], by simp only [List.map_cons, List.map_nil, ea, eb], rfl, ck2_ok ?_⟩
      rw [ha, hb]
      exact (mx_and ek_14).2
end TW3
