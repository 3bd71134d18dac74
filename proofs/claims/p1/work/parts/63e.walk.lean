theorem Jm {B : mx_B} {M : mx_M} {d mi : Nat} {as : List Value} {h : mx_H} {v : Option Value} {P : mx_H → Prop} (k1 : (B.2.2.1 mi).cls = M.2.2.1) (k2 : (B.2.2.1 mi).name = M.2.2.2.1) (k3 : plainName (B.2.2.1 mi).cls = true) (k4 : B.2.2.2 mi = Cond.code (B.2.2.1 mi) M.1 M.2.1 M.2.2.2.2 :: B.2.1.2.1) (hlen : (mx_ent as M.2.1).length = M.2.1)
    (hj : mx_J B M d 0 (mx_ent as M.2.1) [] h (fun r => r.1 = v ∧ P r.2)) : ∃ h2, mx_Ca B (d + 1) mi as h (v, h2) ∧ P h2 := by
  obtain ⟨r, hca, hv, hP⟩ := mx_J.met k1 k2 k3 k4 hlen hj
  obtain ⟨w, h2⟩ := r
  have hv : w = v := hv
  subst hv
  exact ⟨h2, hca, hP⟩
theorem frY {l : List Nat} {n s : Nat} {V V2 : Nat → mx_C} {h : mx_H} (_hY : YH n s V2 h) (hf : fr l V V2) : fr l V V2 := hf
def qb (ne c : Nat) (b : Int32) : Prop := b = 0 ∨ ∃ m, 1 ≤ m ∧ m ≤ ne ∧ b = nI (m * 1024 + c)
def qg (ne : Nat) (g : Int32) : Prop := g = 0 ∨ ∃ m, 1 ≤ m ∧ m ≤ ne ∧ g = nI (m * 32 + 1)
def cw (i : Nat) : Nat := bif Nat.ble i 1 then 1 else 0
def PC (V : Nat → mx_C) (ne : Nat) : Prop := KB V ∧ V 12 = M12 (nI ne) ∧ (∃ TB, V 14 = ar 7315 TB ∧ ∀ i, i < 8 → ∃ b, mx_get 13 TB i = .int b ∧ qb ne (cw i) b) ∧ (∃ TG g, V 16 = ar 6498 TG ∧ mx_get 13 TG 343 = .int g ∧ qg ne g) ∧ (∃ TK k, V 17 = ar 5 TK ∧ mx_get 13 TK 4 = .int k) ∧ ∃ TT, V 19 = ar 19 TT ∧ ai TT
set_option maxRecDepth 100000 in
theorem pg1 : ∀ m, m < 64 → nI (m * 32 + 1) >>> (5 &&& 31) = nI m ∧ nI (m * 32 + 1) &&& 31 = 1 ∧ (nI m <<< (5 &&& 31) ||| 1) = nI (m * 32 + 1) := by decide +kernel
set_option maxRecDepth 100000 in
theorem pb1 : ∀ m, m < 64 → (nI (m * 1024 + 1) &&& 1023) - 1 = 0 ∧ (nI m <<< (10 &&& 31) ||| (0 + 1)) = nI (m * 1024 + 1) := by decide +kernel
set_option maxRecDepth 100000 in
theorem pb0 : ∀ m, m < 64 → (nI (m * 1024 + 0) &&& 1023) - 1 = -1 ∧ (nI m <<< (10 &&& 31) ||| (-1 + 1)) = nI (m * 1024 + 0) := by decide +kernel
theorem nI_n0 {ne : Nat} (n1 : 1 ≤ ne) (n2 : ne < 64) (e : (0 : Int32) = nI ne) : False := by
  have e : nI 0 = nI ne := nI_0.trans e
  have := (nI_eq (by omega) (by omega)).mp e
  omega
theorem qg_hit {ne : Nat} {g : Int32} (h : qg ne g) (n1 : 1 ≤ ne) (n2 : ne < 64) (e : g >>> (5 &&& 31) = nI ne) : g &&& 31 = 1 := by
  rcases h with h | ⟨m, m1, m2, h⟩
  · rw [h] at e
    exact absurd ((show (0 : Int32) = (0 : Int32) >>> (5 &&& 31) by decide +kernel).trans e) (fun z => nI_n0 n1 n2 z)
  · rw [h]; exact (pg1 m (by omega)).2.1
theorem qb_hit1 {ne : Nat} {b : Int32} (h : qb ne 1 b) (n1 : 1 ≤ ne) (n2 : ne < 64) (e : b >>> (10 &&& 31) = nI ne) : (b &&& 1023) - 1 = 0 := by
  rcases h with h | ⟨m, m1, m2, h⟩
  · rw [h] at e
    exact absurd ((show (0 : Int32) = (0 : Int32) >>> (10 &&& 31) by decide +kernel).trans e) (fun z => nI_n0 n1 n2 z)
  · rw [h]; exact (pb1 m (by omega)).1
theorem qb_hit0 {ne : Nat} {b : Int32} (h : qb ne 0 b) (n1 : 1 ≤ ne) (n2 : ne < 64) (e : b >>> (10 &&& 31) = nI ne) : (b &&& 1023) - 1 = -1 := by
  rcases h with h | ⟨m, m1, m2, h⟩
  · rw [h] at e
    exact absurd ((show (0 : Int32) = (0 : Int32) >>> (10 &&& 31) by decide +kernel).trans e) (fun z => nI_n0 n1 n2 z)
  · rw [h]; exact (pb0 m (by omega)).1
theorem qb.up {ne c : Nat} {b : Int32} (h : qb ne c b) : qb (ne + 1) c b := by
  rcases h with h | ⟨m, m1, m2, h⟩
  · exact Or.inl h
  · exact Or.inr ⟨m, m1, by omega, h⟩
theorem qg.up {ne : Nat} {g : Int32} (h : qg ne g) : qg (ne + 1) g := by
  rcases h with h | ⟨m, m1, m2, h⟩
  · exact Or.inl h
  · exact Or.inr ⟨m, m1, by omega, h⟩
section WK
variable {l : Launch} {D : va_G} {b0 : Nat} {ad : Nat → Nat} {Hb : Heap} {tau : Nat → Int64} {h : mx_H} {V : Nat → mx_C}
set_option maxHeartbeats 300000 in
set_option maxRecDepth 100000 in
theorem jt_25 {d n s ne : Nat} {t : Int32} (hY : YH n s V h) (hn : 83 ≤ n) (hP : PC V ne) : ∃ h2, mx_Ca (tB l D b0 ad Hb tau) (d + 1) 25 [.ref 12, .int t] h (none, h2) ∧ ∃ V2 ne2, YH n s V2 h2 ∧ fr [12, 17] V V2 ∧ PC V2 ne2 ∧ ne ≤ ne2 ∧ ne2 ≤ ne + 1 := by
  obtain ⟨hB, h12, ⟨TB, h14, hTB⟩, ⟨TG, g, h16, hg, hq⟩, ⟨TK, k, h17, hk⟩, TT, h19, hT⟩ := hP
  refine Jm (M := (prog_6_method_3_code, 2, "TitheHeap$Mill", "turnTo", (Option.none : Option Jvm.ClassFile.FieldType))) rfl rfl rfl rfl rfl ?_
  show mx_J _ _ _ 0 [some (.ref 12), some (.int t)] [] h _
  refine mx_J.step (sn_25 0) (fun _ _ => rfl) ?_
  refine Jgetf hY (show mx_Sn _ _ 1 (mx_getf 4 6 4) from sn_25 1) (bl hn rfl) h12 rfl ?_
  refine mx_J.step (sn_25 4) (fun _ _ => rfl) ?_
  refine Jiald (i := 4) hY (show mx_Sn _ _ 5 (mx_iald 6) from sn_25 5) (bl hn rfl) h17 (by decide +kernel) (hk) ?_
  refine mx_J.step (sn_25 6) (fun _ _ => rfl) ?_
  by_cases hkt : k = t
  · refine Jicmp_eq_t (show mx_Sn _ _ 7 (mx_icmp_eq 27 10) from sn_25 7) hkt ?_
    exact mx_J.ret (sn_25 27) (fun _ _ => rfl) ⟨rfl, V, ne, hY, fr.rfl', ⟨hB, h12, ⟨TB, h14, hTB⟩, ⟨TG, g, h16, hg, hq⟩, ⟨TK, k, h17, hk⟩, TT, h19, hT⟩, Nat.le_refl _, Nat.le_succ _⟩
  · refine Jicmp_eq_f (show mx_Sn _ _ 7 (mx_icmp_eq 27 10) from sn_25 7) hkt ?_
    refine mx_J.step (sn_25 10) (fun _ _ => rfl) ?_
    refine Jgetf hY (show mx_Sn _ _ 11 (mx_getf 4 6 14) from sn_25 11) (bl hn rfl) h12 rfl ?_
    refine mx_J.step (sn_25 14) (fun _ _ => rfl) ?_
    refine mx_J.step (sn_25 15) (fun _ _ => rfl) ?_
    refine Jiast (i := 4) hY (show mx_Sn _ _ 16 (mx_iast 1 17) from sn_25 16) (bl hn rfl) rfl h17 (by decide +kernel) (by decide) (fun h hY => ?_)
    refine mx_J.step (sn_25 17) (fun _ _ => rfl) ?_
    refine mx_J.step (sn_25 18) (fun _ _ => rfl) ?_
    refine Jgetf hY (show mx_Sn _ _ 19 (mx_getf 4 2 22) from sn_25 19) (bl hn rfl) h12 rfl ?_
    refine mx_J.step (sn_25 22) (fun _ _ => rfl) ?_
    refine mx_J.step (sn_25 23) (fun _ _ => rfl) ?_
    refine Jputf hY (show mx_Sn _ _ 24 (mx_putf 1 4 2 (.int) 27) from sn_25 24) (bl hn rfl) rfl h12 rfl (fun h hY => ?_)
    have hf := frY (l := [12, 17]) hY (fr.up (fr.up fr.rfl' rfl) rfl)
    exact mx_J.ret (sn_25 27) (fun _ _ => rfl) ⟨rfl, _, ne + 1, hY, hf, ⟨KB.fr hB hf rfl, by show M12 (nI ne + 1) = M12 (nI (ne + 1)); rw [nI_succ], ⟨TB, h14, fun i hi => (hTB i hi).imp fun b hb => ⟨hb.1, hb.2.up⟩⟩, ⟨TG, g, h16, hg, hq.up⟩, ⟨_, t, rfl, gs_eq (by decide)⟩, TT, h19, hT⟩, Nat.le_succ _, Nat.le_refl _⟩
set_option maxHeartbeats 300000 in
set_option maxRecDepth 100000 in
theorem jt_30 {d n s ne : Nat} (hY : YH n s V h) (hn : 83 ≤ n) (hP : PC V ne) (n1 : 1 ≤ ne) (n2 : ne < 64) : ∃ h2, mx_Ca (tB l D b0 ad Hb tau) (d + 1) 30 [.ref 12, .int 1, .int 0, .int 1] h (some (.int 1), h2) ∧ ∃ V2, YH n s V2 h2 ∧ fr [16, 17] V V2 ∧ PC V2 ne := by
  obtain ⟨hB, h12, ⟨TB, h14, hTB⟩, ⟨TG, g, h16, hg, hq⟩, ⟨TK, k, h17, hk⟩, TT, h19, hT⟩ := hP
  refine Jm (M := (prog_6_method_8_code, 6, "TitheHeap$Mill", "gift", (Option.some Jvm.ClassFile.FieldType.int))) rfl rfl rfl rfl rfl ?_
  show mx_J _ _ _ 0 [some (.ref 12), some (.int 1), some (.int 0), some (.int 1), none, none] [] h _
  refine mx_J.step (sn_30 0) (fun _ _ => rfl) ?_
  refine mx_J.step (sn_30 1) (fun _ _ => rfl) ?_
  refine mx_J.step (sn_30 3) (fun _ _ => rfl) ?_
  refine mx_J.step (sn_30 4) (fun _ _ => rfl) ?_
  refine mx_J.step (sn_30 5) (fun _ _ => rfl) ?_
  refine mx_J.step (sn_30 6) (fun _ _ => rfl) ?_
  refine mx_J.step (sn_30 8) (fun _ _ => rfl) ?_
  refine mx_J.step (sn_30 9) (fun _ _ => rfl) ?_
  refine mx_J.step (sn_30 10) (fun _ _ => rfl) ?_
  refine mx_J.step (sn_30 11) (fun _ _ => rfl) ?_
  refine mx_J.step (sn_30 13) (fun _ _ => rfl) ?_
  refine Jif_lt_f (show mx_Sn _ _ 15 (mx_if_lt 28 18) from sn_30 15) (by decide +kernel) ?_
  refine mx_J.step (sn_30 18) (fun _ _ => rfl) ?_
  refine mx_J.step (sn_30 20) (fun _ _ => rfl) ?_
  refine Jgetf hY (show mx_Sn _ _ 21 (mx_getf 4 5 24) from sn_30 21) (bl hn rfl) h12 rfl ?_
  refine Jalen hY (show mx_Sn _ _ 24 (mx_alen 25) from sn_30 24) (bl hn rfl) h16 ?_
  refine Jicmp_lt_t (show mx_Sn _ _ 25 (mx_icmp_lt 30 28) from sn_30 25) (by decide +kernel) ?_
  refine mx_J.step (sn_30 30) (fun _ _ => rfl) ?_
  refine Jgetf hY (show mx_Sn _ _ 31 (mx_getf 4 5 34) from sn_30 31) (bl hn rfl) h12 rfl ?_
  refine mx_J.step (sn_30 34) (fun _ _ => rfl) ?_
  refine Jiald (i := 343) hY (show mx_Sn _ _ 36 (mx_iald 37) from sn_30 36) (bl hn rfl) h16 (by decide +kernel) (hg) ?_
  refine mx_J.step (sn_30 37) (fun _ _ => rfl) ?_
  refine mx_J.step (sn_30 38) (fun _ _ => rfl) ?_
  refine mx_J.step (sn_30 39) (fun _ _ => rfl) ?_
  refine Jgetf hY (show mx_Sn _ _ 40 (mx_getf 4 2 43) from sn_30 40) (bl hn rfl) h12 rfl ?_
  by_cases hkt : g >>> (5 &&& 31) = nI ne
  · refine Jicmp_eq_t (show mx_Sn _ _ 43 (mx_icmp_eq 149 46) from sn_30 43) hkt ?_
    refine mx_J.step (sn_30 149) (fun _ _ => rfl) ?_
    refine Jgetf hY (show mx_Sn _ _ 150 (mx_getf 4 5 153) from sn_30 150) (bl hn rfl) h12 rfl ?_
    refine mx_J.step (sn_30 153) (fun _ _ => rfl) ?_
    refine Jiald (i := 343) hY (show mx_Sn _ _ 155 (mx_iald 156) from sn_30 155) (bl hn rfl) h16 (by decide +kernel) (hg) ?_
    refine mx_J.step (sn_30 156) (fun _ _ => rfl) ?_
    refine mx_J.step (sn_30 158) (fun _ _ => rfl) ?_
    exact mx_J.ret (sn_30 159) (fun _ _ => rfl) ⟨by show some (Value.int (g &&& 31)) = _; rw [qg_hit hq n1 n2 hkt], V, hY, fr.rfl', ⟨hB, h12, ⟨TB, h14, hTB⟩, ⟨TG, g, h16, hg, hq⟩, ⟨TK, k, h17, hk⟩, TT, h19, hT⟩⟩
  · refine Jicmp_eq_f (show mx_Sn _ _ 43 (mx_icmp_eq 149 46) from sn_30 43) hkt ?_
    refine mx_J.step (sn_30 46) (fun _ _ => rfl) ?_
    refine Jgetf hY (show mx_Sn _ _ 47 (mx_getf 4 6 50) from sn_30 47) (bl hn rfl) h12 rfl ?_
    refine mx_J.step (sn_30 50) (fun _ _ => rfl) ?_
    refine mx_J.step (sn_30 51) (fun _ _ => rfl) ?_
    refine Jiast (i := 0) hY (show mx_Sn _ _ 52 (mx_iast 1 53) from sn_30 52) (bl hn rfl) rfl h17 (by decide +kernel) (by decide) (fun h hY => ?_)
    refine mx_J.step (sn_30 53) (fun _ _ => rfl) ?_
    refine Jgetf hY (show mx_Sn _ _ 54 (mx_getf 4 6 57) from sn_30 54) (bl hn rfl) h12 rfl ?_
    refine mx_J.step (sn_30 57) (fun _ _ => rfl) ?_
    refine mx_J.step (sn_30 58) (fun _ _ => rfl) ?_
    refine Jiast (i := 1) hY (show mx_Sn _ _ 59 (mx_iast 1 60) from sn_30 59) (bl hn rfl) rfl rfl (by decide +kernel) (by decide) (fun h hY => ?_)
    refine mx_J.step (sn_30 60) (fun _ _ => rfl) ?_
    refine Jgetf hY (show mx_Sn _ _ 61 (mx_getf 4 6 64) from sn_30 61) (bl hn rfl) h12 rfl ?_
    refine mx_J.step (sn_30 64) (fun _ _ => rfl) ?_
    refine mx_J.step (sn_30 65) (fun _ _ => rfl) ?_
    refine Jiast (i := 2) hY (show mx_Sn _ _ 66 (mx_iast 1 67) from sn_30 66) (bl hn rfl) rfl rfl (by decide +kernel) (by decide) (fun h hY => ?_)
    refine mx_J.step (sn_30 67) (fun _ _ => rfl) ?_
    refine mx_J.step (sn_30 68) (fun _ _ => rfl) ?_
    refine mx_J.step (sn_30 70) (fun _ _ => rfl) ?_
    refine Jgetf hY (show mx_Sn _ _ 71 (mx_getf 4 1 74) from sn_30 71) (bl hn rfl) h12 rfl ?_
    refine Jgetf hY (show mx_Sn _ _ 74 (mx_getf 3 1 77) from sn_30 74) (bl hn rfl) (kb_37 hB) rfl ?_
    refine Jalen hY (show mx_Sn _ _ 77 (mx_alen 78) from sn_30 77) (bl hn rfl) (kb_0 hB) ?_
    refine Jif_le_t (show mx_Sn _ _ 78 (mx_if_le 101 81) from sn_30 78) (by decide +kernel) ?_
    refine mx_J.step (sn_30 101) (fun _ _ => rfl) ?_
    refine Jgetf hY (show mx_Sn _ _ 102 (mx_getf 4 1 105) from sn_30 102) (bl hn rfl) h12 rfl ?_
    refine Jgetf hY (show mx_Sn _ _ 105 (mx_getf 3 0 108) from sn_30 105) (bl hn rfl) (kb_37 hB) rfl ?_
    refine Jalen hY (show mx_Sn _ _ 108 (mx_alen 109) from sn_30 108) (bl hn rfl) (kb_0 hB) ?_
    refine Jif_le_t (show mx_Sn _ _ 109 (mx_if_le 133 112) from sn_30 109) (by decide +kernel) ?_
    refine mx_J.step (sn_30 133) (fun _ _ => rfl) ?_
    refine Jgetf hY (show mx_Sn _ _ 134 (mx_getf 4 5 137) from sn_30 134) (bl hn rfl) h12 rfl ?_
    refine mx_J.step (sn_30 137) (fun _ _ => rfl) ?_
    refine mx_J.step (sn_30 139) (fun _ _ => rfl) ?_
    refine Jgetf hY (show mx_Sn _ _ 140 (mx_getf 4 2 143) from sn_30 140) (bl hn rfl) h12 rfl ?_
    refine mx_J.step (sn_30 143) (fun _ _ => rfl) ?_
    refine mx_J.step (sn_30 144) (fun _ _ => rfl) ?_
    refine mx_J.step (sn_30 145) (fun _ _ => rfl) ?_
    refine mx_J.step (sn_30 147) (fun _ _ => rfl) ?_
    refine Jiast (i := 343) hY (show mx_Sn _ _ 148 (mx_iast 1 149) from sn_30 148) (bl hn rfl) rfl h16 (by decide +kernel) (by decide) (fun h hY => ?_)
    refine mx_J.step (sn_30 149) (fun _ _ => rfl) ?_
    refine Jgetf hY (show mx_Sn _ _ 150 (mx_getf 4 5 153) from sn_30 150) (bl hn rfl) h12 rfl ?_
    refine mx_J.step (sn_30 153) (fun _ _ => rfl) ?_
    refine Jiald (i := 343) hY (show mx_Sn _ _ 155 (mx_iald 156) from sn_30 155) (bl hn rfl) rfl (by decide +kernel) (gs_eq (by decide)) ?_
    refine mx_J.step (sn_30 156) (fun _ _ => rfl) ?_
    refine mx_J.step (sn_30 158) (fun _ _ => rfl) ?_
    have hf := frY (l := [16, 17]) hY (fr.up (fr.up (fr.up (fr.up fr.rfl' rfl) rfl) rfl) rfl)
    exact mx_J.ret (sn_30 159) (fun _ _ => rfl) ⟨by show some (Value.int ((nI ne <<< (5 &&& 31) ||| 1) &&& 31)) = _; rw [(pg1 ne n2).2.2, (pg1 ne n2).2.1], _, hY, hf, ⟨KB.fr hB hf rfl, h12, ⟨TB, h14, hTB⟩, ⟨_, _, rfl, gs_eq (by decide), Or.inr ⟨ne, n1, Nat.le_refl _, (pg1 ne n2).2.2⟩⟩, ⟨_, k, rfl, (gs_ne (by decide) (by decide) (by decide)).trans ((gs_ne (by decide) (by decide) (by decide)).trans ((gs_ne (by decide) (by decide) (by decide)).trans hk))⟩, TT, h19, hT⟩⟩
set_option maxHeartbeats 300000 in
set_option maxRecDepth 100000 in
theorem jt_29a {ne : Nat} (hY : YH 84 62986 V h) (hP : PC V ne) (n1 : 1 ≤ ne) (n2 : ne < 64) : ∃ h2, mx_Ca (tB l D b0 ad Hb tau) 26 29 [.ref 12, .int 0, .int (-1)] h (some (.int 0), h2) ∧ ∃ V2, YH 84 62986 V2 h2 ∧ fr [16, 17, 19] V V2 ∧ PC V2 ne := by
  obtain ⟨hB, h12, ⟨TB, h14, hTB⟩, ⟨TG, g, h16, hg, hq⟩, ⟨TK, k, h17, hk⟩, TT, h19, hT⟩ := hP
  refine Jm (M := (prog_6_method_7_code, 8, "TitheHeap$Mill", "workOut", (Option.some Jvm.ClassFile.FieldType.int))) rfl rfl rfl rfl rfl ?_
  show mx_J _ _ _ 0 [some (.ref 12), some (.int 0), some (.int (-1)), none, none, none, none, none] [] h _
  refine mx_J.step (sn_29 0) (fun _ _ => rfl) ?_
  refine Jgetf hY (show mx_Sn _ _ 1 (mx_getf 4 8 4) from sn_29 1) rfl h12 rfl ?_
  refine mx_J.step (sn_29 4) (fun _ _ => rfl) ?_
  obtain ⟨h1, hca, hY1⟩ := cl_fill hY h19 hT
  refine Jcalls0 (show mx_Sn _ _ 5 (mx_calls 284 2 8) from sn_29 5) hca rfl rfl ?_
  have hY := hY1
  have hf1 : fr [16, 17, 19] V (upV V 19 (ar 19 (mx_rep (.int 0) 13))) := fr.up fr.rfl' rfl
  have hB := KB.fr hB hf1 rfl
  refine mx_J.step (sn_29 8) (fun _ _ => rfl) ?_
  refine Jgetf hY (show mx_Sn _ _ 9 (mx_getf 4 0 12) from sn_29 9) rfl h12 rfl ?_
  refine mx_J.step (sn_29 12) (fun _ _ => rfl) ?_
  obtain ⟨h1, hca, hY1⟩ := cl_5 hY hB
  refine Jcallv (b := 7) hY (show mx_Sn _ _ 13 (mx_callv 5 2 0 16) from sn_29 13) rfl (kb_7 hB) hca rfl rfl ?_
  have hY := hY1
  refine mx_J.step (sn_29 16) (fun _ _ => rfl) ?_
  refine mx_J.step (sn_29 17) (fun _ _ => rfl) ?_
  refine mx_J.step (sn_29 18) (fun _ _ => rfl) ?_
  refine mx_J.step (sn_29 20) (fun _ _ => rfl) ?_
  refine mx_J.step (sn_29 21) (fun _ _ => rfl) ?_
  refine mx_J.step (sn_29 23) (fun _ _ => rfl) ?_
  refine mx_J.step (sn_29 25) (fun _ _ => rfl) ?_
  refine Jicmp_ge_f (show mx_Sn _ _ 26 (mx_icmp_ge 89 29) from sn_29 26) (by decide +kernel) ?_
  refine mx_J.step (sn_29 29) (fun _ _ => rfl) ?_
  refine Jgetf hY (show mx_Sn _ _ 30 (mx_getf 4 0 33) from sn_29 30) rfl h12 rfl ?_
  refine mx_J.step (sn_29 33) (fun _ _ => rfl) ?_
  refine mx_J.step (sn_29 34) (fun _ _ => rfl) ?_
  obtain ⟨h1, hca, hY1⟩ := cl_6 hY hB
  refine Jcallv (b := 7) hY (show mx_Sn _ _ 36 (mx_callv 6 3 0 39) from sn_29 36) rfl (kb_7 hB) hca rfl rfl ?_
  have hY := hY1
  refine mx_J.step (sn_29 39) (fun _ _ => rfl) ?_
  refine mx_J.step (sn_29 41) (fun _ _ => rfl) ?_
  refine mx_J.step (sn_29 43) (fun _ _ => rfl) ?_
  refine Jicmp_ne_t (show mx_Sn _ _ 44 (mx_icmp_ne 51 47) from sn_29 44) (by decide +kernel) ?_
  refine mx_J.step (sn_29 51) (fun _ _ => rfl) ?_
  refine mx_J.step (sn_29 52) (fun _ _ => rfl) ?_
  refine mx_J.step (sn_29 54) (fun _ _ => rfl) ?_
  refine mx_J.step (sn_29 56) (fun _ _ => rfl) ?_
  have hP1 : PC (upV V 19 (ar 19 (mx_rep (.int 0) 13))) ne := ⟨hB, h12, ⟨TB, h14, hTB⟩, ⟨TG, g, h16, hg, hq⟩, ⟨TK, k, h17, hk⟩, _, rfl, ai_rep⟩
  obtain ⟨h1, hca, V2, hY1, hf2, hP2⟩ := jt_30 (d := 24) hY (by decide) hP1 n1 n2
  refine Jcallv (b := 12) hY (show mx_Sn _ _ 57 (mx_callv 30 4 4 60) from sn_29 57) rfl h12 hca rfl rfl ?_
  have hY := hY1
  have e19 : V2 19 = ar 19 (mx_rep (.int 0) 13) := hf2 19 rfl
  have hf2 := hf1.trans (hf2.mono (l2 := [16, 17, 19]) rfl)
  obtain ⟨hB, h12, ⟨TB, h14, hTB⟩, ⟨TG, g, h16, hg, hq⟩, ⟨TK, k, h17, hk⟩, -⟩ := hP2
  refine mx_J.step (sn_29 60) (fun _ _ => rfl) ?_
  refine mx_J.step (sn_29 62) (fun _ _ => rfl) ?_
  refine mx_J.step (sn_29 64) (fun _ _ => rfl) ?_
  refine mx_J.step (sn_29 66) (fun _ _ => rfl) ?_
  refine mx_J.step (sn_29 67) (fun _ _ => rfl) ?_
  refine mx_J.step (sn_29 69) (fun _ _ => rfl) ?_
  refine Jgetf hY (show mx_Sn _ _ 70 (mx_getf 4 8 73) from sn_29 70) rfl h12 rfl ?_
  refine mx_J.step (sn_29 73) (fun _ _ => rfl) ?_
  refine mx_J.step (sn_29 75) (fun _ _ => rfl) ?_
  refine mx_J.step (sn_29 77) (fun _ _ => rfl) ?_
  refine mx_J.step (sn_29 78) (fun _ _ => rfl) ?_
  refine Jiald (i := 0) hY (show mx_Sn _ _ 79 (mx_iald 80) from sn_29 79) rfl e19 (by decide +kernel) (mx_get_rep _ 13 0) ?_
  refine mx_J.step (sn_29 80) (fun _ _ => rfl) ?_
  refine mx_J.step (sn_29 81) (fun _ _ => rfl) ?_
  refine Jiast (i := 0) hY (show mx_Sn _ _ 82 (mx_iast 1 83) from sn_29 82) rfl rfl e19 (by decide +kernel) (by decide) (fun h hY => ?_)
  refine mx_J.step (sn_29 83) (fun _ _ => rfl) ?_
  refine mx_J.step (sn_29 86) (fun _ _ => rfl) ?_
  refine mx_J.step (sn_29 23) (fun _ _ => rfl) ?_
  refine mx_J.step (sn_29 25) (fun _ _ => rfl) ?_
  refine Jicmp_ge_t (show mx_Sn _ _ 26 (mx_icmp_ge 89 29) from sn_29 26) (by decide +kernel) ?_
  refine mx_J.step (sn_29 89) (fun _ _ => rfl) ?_
  refine Jgetf hY (show mx_Sn _ _ 90 (mx_getf 4 8 93) from sn_29 90) rfl h12 rfl ?_
  refine mx_J.step (sn_29 93) (fun _ _ => rfl) ?_
  refine mx_J.step (sn_29 95) (fun _ _ => rfl) ?_
  refine Jiald (i := 1) hY (show mx_Sn _ _ 96 (mx_iald 97) from sn_29 96) rfl rfl (by decide +kernel) ((gs_ne (by decide) (by decide) (by decide)).trans (mx_get_rep _ 13 1)) ?_
  refine mx_J.step (sn_29 97) (fun _ _ => rfl) ?_
  refine mx_J.step (sn_29 98) (fun _ _ => rfl) ?_
  refine Jiast (i := 1) hY (show mx_Sn _ _ 99 (mx_iast 1 100) from sn_29 99) rfl rfl rfl (by decide +kernel) (by decide) (fun h hY => ?_)
  refine mx_J.step (sn_29 100) (fun _ _ => rfl) ?_
  refine Jgetf hY (show mx_Sn _ _ 101 (mx_getf 4 0 104) from sn_29 101) rfl h12 rfl ?_
  refine mx_J.step (sn_29 104) (fun _ _ => rfl) ?_
  refine Jgetf hY (show mx_Sn _ _ 105 (mx_getf 4 8 108) from sn_29 105) rfl h12 rfl ?_
  have hf3 := frY (l := [16, 17, 19]) hY (fr.up (fr.up hf2 rfl) rfl)
  have hB := KB.fr hB (frY (l := [19]) hY (fr.up (fr.up fr.rfl' rfl) rfl)) rfl
  obtain ⟨h1, hca, hY1⟩ := cl_9 hY hB rfl (by decide +kernel)
  refine Jcallv (b := 7) hY (show mx_Sn _ _ 108 (mx_callv 9 2 0 111) from sn_29 108) rfl (kb_7 hB) hca rfl rfl ?_
  have hY := hY1
  exact mx_J.ret (sn_29 111) (fun _ _ => rfl) ⟨rfl, _, hY, hf3, ⟨hB, h12, ⟨TB, h14, hTB⟩, ⟨TG, g, h16, hg, hq⟩, ⟨TK, k, h17, hk⟩, _, rfl, ai_set (ai_set ai_rep (by decide)) (by decide)⟩⟩
set_option maxHeartbeats 300000 in
set_option maxRecDepth 100000 in
theorem jt_29b {ne : Nat} (hY : YH 84 62986 V h) (hP : PC V ne) (n1 : 1 ≤ ne) (n2 : ne < 64) : ∃ h2, mx_Ca (tB l D b0 ad Hb tau) 26 29 [.ref 12, .int 0, .int 0] h (some (.int 0), h2) ∧ ∃ V2, YH 84 62986 V2 h2 ∧ fr [16, 17, 19] V V2 ∧ PC V2 ne := by
  obtain ⟨hB, h12, ⟨TB, h14, hTB⟩, ⟨TG, g, h16, hg, hq⟩, ⟨TK, k, h17, hk⟩, TT, h19, hT⟩ := hP
  refine Jm (M := (prog_6_method_7_code, 8, "TitheHeap$Mill", "workOut", (Option.some Jvm.ClassFile.FieldType.int))) rfl rfl rfl rfl rfl ?_
  show mx_J _ _ _ 0 [some (.ref 12), some (.int 0), some (.int 0), none, none, none, none, none] [] h _
  refine mx_J.step (sn_29 0) (fun _ _ => rfl) ?_
  refine Jgetf hY (show mx_Sn _ _ 1 (mx_getf 4 8 4) from sn_29 1) rfl h12 rfl ?_
  refine mx_J.step (sn_29 4) (fun _ _ => rfl) ?_
  obtain ⟨h1, hca, hY1⟩ := cl_fill hY h19 hT
  refine Jcalls0 (show mx_Sn _ _ 5 (mx_calls 284 2 8) from sn_29 5) hca rfl rfl ?_
  have hY := hY1
  have hf1 : fr [16, 17, 19] V (upV V 19 (ar 19 (mx_rep (.int 0) 13))) := fr.up fr.rfl' rfl
  have hB := KB.fr hB hf1 rfl
  refine mx_J.step (sn_29 8) (fun _ _ => rfl) ?_
  refine Jgetf hY (show mx_Sn _ _ 9 (mx_getf 4 0 12) from sn_29 9) rfl h12 rfl ?_
  refine mx_J.step (sn_29 12) (fun _ _ => rfl) ?_
  obtain ⟨h1, hca, hY1⟩ := cl_5 hY hB
  refine Jcallv (b := 7) hY (show mx_Sn _ _ 13 (mx_callv 5 2 0 16) from sn_29 13) rfl (kb_7 hB) hca rfl rfl ?_
  have hY := hY1
  refine mx_J.step (sn_29 16) (fun _ _ => rfl) ?_
  refine mx_J.step (sn_29 17) (fun _ _ => rfl) ?_
  refine mx_J.step (sn_29 18) (fun _ _ => rfl) ?_
  refine mx_J.step (sn_29 20) (fun _ _ => rfl) ?_
  refine mx_J.step (sn_29 21) (fun _ _ => rfl) ?_
  refine mx_J.step (sn_29 23) (fun _ _ => rfl) ?_
  refine mx_J.step (sn_29 25) (fun _ _ => rfl) ?_
  refine Jicmp_ge_f (show mx_Sn _ _ 26 (mx_icmp_ge 89 29) from sn_29 26) (by decide +kernel) ?_
  refine mx_J.step (sn_29 29) (fun _ _ => rfl) ?_
  refine Jgetf hY (show mx_Sn _ _ 30 (mx_getf 4 0 33) from sn_29 30) rfl h12 rfl ?_
  refine mx_J.step (sn_29 33) (fun _ _ => rfl) ?_
  refine mx_J.step (sn_29 34) (fun _ _ => rfl) ?_
  obtain ⟨h1, hca, hY1⟩ := cl_6 hY hB
  refine Jcallv (b := 7) hY (show mx_Sn _ _ 36 (mx_callv 6 3 0 39) from sn_29 36) rfl (kb_7 hB) hca rfl rfl ?_
  have hY := hY1
  have hf2 := hf1
  refine mx_J.step (sn_29 39) (fun _ _ => rfl) ?_
  refine mx_J.step (sn_29 41) (fun _ _ => rfl) ?_
  refine mx_J.step (sn_29 43) (fun _ _ => rfl) ?_
  refine Jicmp_ne_f (show mx_Sn _ _ 44 (mx_icmp_ne 51 47) from sn_29 44) (by decide +kernel) ?_
  refine mx_J.step (sn_29 47) (fun _ _ => rfl) ?_
  refine mx_J.step (sn_29 48) (fun _ _ => rfl) ?_
  refine mx_J.step (sn_29 60) (fun _ _ => rfl) ?_
  refine mx_J.step (sn_29 62) (fun _ _ => rfl) ?_
  refine mx_J.step (sn_29 64) (fun _ _ => rfl) ?_
  refine mx_J.step (sn_29 66) (fun _ _ => rfl) ?_
  refine mx_J.step (sn_29 67) (fun _ _ => rfl) ?_
  refine mx_J.step (sn_29 69) (fun _ _ => rfl) ?_
  refine Jgetf hY (show mx_Sn _ _ 70 (mx_getf 4 8 73) from sn_29 70) rfl h12 rfl ?_
  refine mx_J.step (sn_29 73) (fun _ _ => rfl) ?_
  refine mx_J.step (sn_29 75) (fun _ _ => rfl) ?_
  refine mx_J.step (sn_29 77) (fun _ _ => rfl) ?_
  refine mx_J.step (sn_29 78) (fun _ _ => rfl) ?_
  refine Jiald (i := 1) hY (show mx_Sn _ _ 79 (mx_iald 80) from sn_29 79) rfl rfl (by decide +kernel) (mx_get_rep _ 13 1) ?_
  refine mx_J.step (sn_29 80) (fun _ _ => rfl) ?_
  refine mx_J.step (sn_29 81) (fun _ _ => rfl) ?_
  refine Jiast (i := 1) hY (show mx_Sn _ _ 82 (mx_iast 1 83) from sn_29 82) rfl rfl rfl (by decide +kernel) (by decide) (fun h hY => ?_)
  refine mx_J.step (sn_29 83) (fun _ _ => rfl) ?_
  refine mx_J.step (sn_29 86) (fun _ _ => rfl) ?_
  refine mx_J.step (sn_29 23) (fun _ _ => rfl) ?_
  refine mx_J.step (sn_29 25) (fun _ _ => rfl) ?_
  refine Jicmp_ge_t (show mx_Sn _ _ 26 (mx_icmp_ge 89 29) from sn_29 26) (by decide +kernel) ?_
  refine mx_J.step (sn_29 89) (fun _ _ => rfl) ?_
  refine Jgetf hY (show mx_Sn _ _ 90 (mx_getf 4 8 93) from sn_29 90) rfl h12 rfl ?_
  refine mx_J.step (sn_29 93) (fun _ _ => rfl) ?_
  refine mx_J.step (sn_29 95) (fun _ _ => rfl) ?_
  refine Jiald (i := 0) hY (show mx_Sn _ _ 96 (mx_iald 97) from sn_29 96) rfl rfl (by decide +kernel) ((gs_ne (by decide) (by decide) (by decide)).trans (mx_get_rep _ 13 0)) ?_
  refine mx_J.step (sn_29 97) (fun _ _ => rfl) ?_
  refine mx_J.step (sn_29 98) (fun _ _ => rfl) ?_
  refine Jiast (i := 0) hY (show mx_Sn _ _ 99 (mx_iast 1 100) from sn_29 99) rfl rfl rfl (by decide +kernel) (by decide) (fun h hY => ?_)
  refine mx_J.step (sn_29 100) (fun _ _ => rfl) ?_
  refine Jgetf hY (show mx_Sn _ _ 101 (mx_getf 4 0 104) from sn_29 101) rfl h12 rfl ?_
  refine mx_J.step (sn_29 104) (fun _ _ => rfl) ?_
  refine Jgetf hY (show mx_Sn _ _ 105 (mx_getf 4 8 108) from sn_29 105) rfl h12 rfl ?_
  have hf3 := frY (l := [16, 17, 19]) hY (fr.up (fr.up hf2 rfl) rfl)
  have hB := KB.fr hB (frY (l := [19]) hY (fr.up (fr.up fr.rfl' rfl) rfl)) rfl
  obtain ⟨h1, hca, hY1⟩ := cl_9 hY hB rfl (by decide +kernel)
  refine Jcallv (b := 7) hY (show mx_Sn _ _ 108 (mx_callv 9 2 0 111) from sn_29 108) rfl (kb_7 hB) hca rfl rfl ?_
  have hY := hY1
  exact mx_J.ret (sn_29 111) (fun _ _ => rfl) ⟨rfl, _, hY, hf3, ⟨hB, h12, ⟨TB, h14, hTB⟩, ⟨TG, g, h16, hg, hq⟩, ⟨TK, k, h17, hk⟩, _, rfl, ai_set (ai_set ai_rep (by decide)) (by decide)⟩⟩
end WK
