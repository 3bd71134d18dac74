noncomputable def fm (k : Nat) : Bool := Nat.ble 56 k && Nat.blt k 83
noncomputable def fc (k : Nat) : Bool := Nat.ble 1 k && Nat.blt k 56
noncomputable def hm_4 : mx_H := mx_hide fm h_4
noncomputable def hc_4 : mx_H := mx_hide fc h_4
noncomputable def c0 (h : mx_H) : Bool := match mx_get 9 h.2.2 0 with
  | .inr q => match q.1 with
    | .int => Nat.beq q.2.1 0
    | _ => false
  | _ => false
theorem c0_ok {h : mx_H} (e : c0 h = true) : ∃ t : mx_A, mx_get 9 h.2.2 0 = .inr (.int, 0, t) := by
  unfold c0 at e
  split at e
  · rename_i q hq
    obtain ⟨ty, n, t⟩ := q
    cases ty <;> first | cases e | skip
    have hn : n = 0 := Nat.eq_of_beq_eq_true e
    exact ⟨t, by rw [hq, hn]⟩
  · cases e
/-- the cells that f names are still not known, all others are -/
noncomputable def kn (f : Nat → Bool) (h : mx_H) : Bool := (List.range 83).all fun k => bif f k then !(mx_nj (mx_get 9 h.2.2 k)) else mx_nj (mx_get 9 h.2.2 k)
theorem kn_ok {f : Nat → Bool} {h : mx_H} (e : kn f h = true) {k : Nat} (hk : k < 83) : (f k = true → mx_nj (mx_get 9 h.2.2 k) = false) ∧ (¬ f k = true → mx_nj (mx_get 9 h.2.2 k) = true) := by
  have h1 := List.all_eq_true.mp e k (List.mem_range.mpr hk)
  cases hf : f k with
  | true =>
    rw [hf, cond_true] at h1
    exact ⟨fun _ => by rw [Bool.not_eq_true'] at h1; exact h1, fun z => absurd rfl z⟩
  | false =>
    rw [hf, cond_false] at h1
    exact ⟨(fun z => absurd z Bool.false_ne_true), fun _ => h1⟩
noncomputable def hf1 (f : Nat → Bool) (o : Option mx_R) : Bool := match o with
  | some r => Nat.beq r.2.1 83 && (Nat.beq r.2.2.1 h_4.2.1 && (kn f r.2 && c0 r.2))
  | none => false
noncomputable def ans (o : Option mx_R) : Value := match o with
  | some r => match r.1 with
    | some v => v
    | none => .null
  | none => .null
/-- both answer alike on a new object, each over its own half -/
noncomputable def ck3 (lng : Bool) (mi1 mi2 : Nat) (as : List Value) : Bool := hf1 fm (tev mi1 (.ref 1 :: as) hm_4) && (hf1 fc (tev mi2 (.ref 56 :: as) hc_4) && mx_same lng (ans (tev mi1 (.ref 1 :: as) hm_4)) (ans (tev mi2 (.ref 56 :: as) hc_4)))
theorem mx_same_ok {lng : Bool} {v w : Value} (h1 : mx_same lng v w = true) : v = w ∧ tw_lg lng v := by
  unfold mx_same at h1
  split at h1
  · obtain ⟨k1, k2⟩ := mx_and h1
    cases lng
    · exact ⟨by rw [of_decide_eq_true k2], ⟨_, rfl⟩⟩
    · cases k1
  · obtain ⟨k1, k2⟩ := mx_and h1
    cases lng
    · cases k1
    · exact ⟨by rw [of_decide_eq_true k2], ⟨_, rfl⟩⟩
  · cases h1
theorem ans_ok {lng : Bool} {o : Option mx_R} (h : tw_lg lng (ans o)) : ∃ r : mx_R, o = some r ∧ r = (some (ans o), r.2) := by
  cases o with
  | none => cases lng <;> (obtain ⟨x, hx⟩ := h; cases hx)
  | some r =>
    obtain ⟨v, q⟩ := r
    cases v with
    | none => cases lng <;> (obtain ⟨x, hx⟩ := h; cases hx)
    | some w => exact ⟨_, rfl, rfl⟩
set_option maxRecDepth 1000000 in
theorem ok_kn : (kn (fun _ => false) h_4 && c0 h_4) = true := by decide +kernel
theorem fm_in {k : Nat} (h : fm k = true) : 56 ≤ k ∧ k < 83 := by
  obtain ⟨h1, h2⟩ := mx_and h
  exact ⟨Nat.ble_eq.mp h1, mx_blt h2⟩
theorem fc_in {k : Nat} (h : fc k = true) : 1 ≤ k ∧ k < 56 := by
  obtain ⟨h1, h2⟩ := mx_and h
  exact ⟨Nat.ble_eq.mp h1, mx_blt h2⟩
theorem fm_mk {k : Nat} (h1 : 56 ≤ k) (h2 : k < 83) : fm k = true := by
  unfold fm
  rw [Nat.ble_eq.mpr h1, show Nat.blt k 83 = true from Nat.ble_eq.mpr h2]; rfl
theorem fc_mk {k : Nat} (h1 : 1 ≤ k) (h2 : k < 56) : fc k = true := by
  unfold fc
  rw [Nat.ble_eq.mpr h1, show Nat.blt k 56 = true from Nat.ble_eq.mpr h2]; rfl
theorem hide_jk (f : Nat → Bool) (h : mx_H) {k : Nat} (hk : k < 512) (hf : f k = true) : mx_nj (mx_get 9 (mx_hide f h).2.2 k) = false := by
  show mx_nj (mx_get 9 (mx_mix f _ h).2.2 k) = false
  rw [mx_mix_at f _ h hk, if_pos hf]
  show mx_nj (mx_get 9 (mx_rep mx_jk 9) k) = false
  rw [mx_get_rep]
  rfl
theorem hide_no (f : Nat → Bool) (h : mx_H) {k : Nat} (hk : k < 512) (hf : ¬ f k = true) : mx_get 9 (mx_hide f h).2.2 k = mx_get 9 h.2.2 k := by
  show mx_get 9 (mx_mix f _ h).2.2 k = _
  rw [mx_mix_at f _ h hk, if_neg hf]
theorem mx_mix_1 (f : Nat → Bool) (a b : mx_H) : (mx_mix f a b).1 = b.1 := rfl
theorem mx_mix_2 (f : Nat → Bool) (a b : mx_H) : (mx_mix f a b).2.1 = b.2.1 := rfl
theorem hide_1 (f : Nat → Bool) (h : mx_H) : (mx_hide f h).1 = h.1 := rfl
theorem hide_2 (f : Nat → Bool) (h : mx_H) : (mx_hide f h).2.1 = h.2.1 := rfl
theorem ck3_core {l : Launch} {D : va_G} {b0 : Nat} {ad : Nat → Nat} {Hb : Heap} {tau : Nat → Int64} {mi1 mi2 : Nat} {as fs : List Value} {g : mx_H} {r1 r2 : mx_R} {v : Value} (e1 : tev mi1 (.ref 1 :: as) (mx_hide fm g) = some r1) (e2 : tev mi2 (.ref 56 :: as) (mx_hide fc g) = some r2) (n4 : g.1 = 83) (s4 : g.2.1 ≤ 1000000) (o1 : kn (fun _ => false) g = true) (o2 : c0 g = true)
    (c1 : r1.2.1 = 83) (c2 : r1.2.2.1 = g.2.1) (a3 : kn fm r1.2 = true) (a4 : c0 r1.2 = true) (d1 : r2.2.1 = 83) (d2 : r2.2.2.1 = g.2.1) (b3 : kn fc r2.2 = true) (f1 : r1.1 = some v) (f2 : r2.1 = some v) (hfs : mx_cell g 56 = some (.inl (12, fs))) :
    mx_Ca (tB l D b0 ad Hb tau) 30 mi1 (.ref 1 :: as) g (some v, mx_mix fm g r1.2) ∧ mx_Ca (tB l D b0 ad Hb tau) 30 mi2 (.ref 56 :: as) (mx_mix fm g r1.2) (some v, mx_mix fc (mx_mix fm g r1.2) r2.2) ∧ mx_cell (mx_mix fm g r1.2) 56 = some (.inl (12, fs)) ∧ (mx_mix fc (mx_mix fm g r1.2) r2.2).1 ≤ 512 ∧ (mx_mix fc (mx_mix fm g r1.2) r2.2).2.1 ≤ 1000000 := by
  obtain ⟨t4, ht4⟩ := c0_ok o2
  obtain ⟨t1, ht1⟩ := c0_ok a4
  have q1 : (mx_mix fm g r1.2).1 = 83 := (mx_mix_1 fm g r1.2).trans c1
  have hca : mx_Ca (tB l D b0 ad Hb tau) 30 mi1 (.ref 1 :: as) g (r1.1, mx_mix fm g r1.2) := by
    refine mx_hid2 fm (hj := mx_hide fm g) (fun Hb2 => mx_Ca.of (ev_all 1000000 30) e1) (hide_1 fm g) (hide_2 fm g) (fun k hk => ?_) (fun k hk => ?_) (fun k hk hf => ?_) (fun k hk => ?_) (fun k hk hf => ?_)
    · have := fm_in hk; rw [n4]; omega
    · have := fm_in hk; exact hide_jk fm g (by omega) hk
    · rw [n4] at hk
      exact ⟨Or.inl (hide_no fm g (by omega) hf), (kn_ok o1 (k := k) (by omega)).2 (fun z => absurd z Bool.false_ne_true)⟩
    · have := fm_in hk; exact (kn_ok a3 (by omega)).1 hk
    · rw [c1] at hk; exact (kn_ok a3 hk).2 hf
  have hcb : mx_Ca (tB l D b0 ad Hb tau) 30 mi2 (.ref 56 :: as) (mx_mix fm g r1.2) (r2.1, mx_mix fc (mx_mix fm g r1.2) r2.2) := by
    refine mx_hid2 fc (hj := mx_hide fc g) (fun Hb2 => mx_Ca.of (ev_all 1000000 30) e2) ((hide_1 fc g).trans (n4.trans q1.symm)) ((hide_2 fc g).trans (c2.symm.trans (mx_mix_2 fm g r1.2).symm)) (fun k hk => ?_) (fun k hk => ?_) (fun k hk hf => ?_) (fun k hk => ?_) (fun k hk hf => ?_)
    · have := fc_in hk; rw [q1]; omega
    · have := fc_in hk; exact hide_jk fc g (by omega) hk
    · rw [q1] at hk
      rw [mx_mix_at fm g r1.2 (by omega), hide_no fc g (by omega) hf]
      by_cases hk0 : k = 0
      · subst hk0
        rw [if_neg (fun z => by have := fm_in z; omega)]
        exact ⟨Or.inr ⟨t4, t1, ht4, ht1⟩, (kn_ok a3 (by omega)).2 (fun z => by have := fm_in z; omega)⟩
      · have hfm : fm k = true := by
          by_cases h56 : k < 56
          · exact absurd (fc_mk (by omega) h56) hf
          · exact fm_mk (by omega) hk
        rw [if_pos hfm]
        exact ⟨Or.inl rfl, (kn_ok o1 (k := k) (by omega)).2 (fun z => absurd z Bool.false_ne_true)⟩
    · have := fc_in hk; exact (kn_ok b3 (by omega)).1 hk
    · rw [d1] at hk; exact (kn_ok b3 hk).2 hf
  rw [f1] at hca
  rw [f2] at hcb
  refine ⟨hca, hcb, ?_, ?_, ?_⟩
  · obtain ⟨k1, k2⟩ := mx_cell_some hfs
    unfold mx_cell
    rw [q1, mx_mix_at fm g r1.2 (by omega), if_pos (fm_mk (by omega) (by omega)), k2]
    rfl
  · rw [mx_mix_1, d1]; decide
  · rw [mx_mix_2, d2]; exact s4
theorem hf1_ok {f : Nat → Bool} {r : mx_R} (h : hf1 f (some r) = true) : r.2.1 = 83 ∧ r.2.2.1 = h_4.2.1 ∧ kn f r.2 = true ∧ c0 r.2 = true := by
  obtain ⟨a1, a2⟩ := mx_and (show (Nat.beq r.2.1 83 && (Nat.beq r.2.2.1 h_4.2.1 && (kn f r.2 && c0 r.2))) = true from h)
  obtain ⟨a2, a3⟩ := mx_and a2
  obtain ⟨a3, a4⟩ := mx_and a3
  exact ⟨Nat.eq_of_beq_eq_true a1, Nat.eq_of_beq_eq_true a2, a3, a4⟩
theorem ck3_ok {l : Launch} {D : va_G} {b0 : Nat} {ad : Nat → Nat} {Hb : Heap} {tau : Nat → Int64} {lng : Bool} {mi1 mi2 : Nat} {as : List Value} (n4 : h_4.1 = 83) (s4 : h_4.2.1 ≤ 1000000) (hcm : ∃ fs, mx_cell h_4 56 = some (.inl (12, fs))) (h : ck3 lng mi1 mi2 as = true) : mx_Tw (tB l D b0 ad Hb tau) lng mi1 mi2 as := by
  obtain ⟨g1, g2⟩ := mx_and h
  obtain ⟨g2, g3⟩ := mx_and g2
  obtain ⟨hvw, hlg⟩ := mx_same_ok g3
  have hlg2 : tw_lg lng (ans (tev mi2 (.ref 56 :: as) hc_4)) := by rw [← hvw]; exact hlg
  obtain ⟨r1, e1, e1b⟩ := ans_ok hlg
  obtain ⟨r2, e2, e2b⟩ := ans_ok hlg2
  generalize ans (tev mi1 (.ref 1 :: as) hm_4) = v at hvw hlg e1b
  rw [← hvw] at e2b
  rw [e1] at g1
  rw [e2] at g2
  obtain ⟨c1, c2, a3, a4⟩ := hf1_ok g1
  obtain ⟨d1, d2, b3, -⟩ := hf1_ok g2
  obtain ⟨o1, o2⟩ := mx_and ok_kn
  have f1 : r1.1 = some v := by rw [e1b]
  have f2 : r2.1 = some v := by rw [e2b]
  obtain ⟨fs, hfs⟩ := hcm
  obtain ⟨k1, k2, k3, k4, k5⟩ := ck3_core (l := l) (D := D) (b0 := b0) (ad := ad) (Hb := Hb) (tau := tau) (g := h_4) e1 e2 n4 s4 o1 o2 c1 c2 a3 a4 d1 d2 b3 f1 f2 hfs
  exact ⟨v, _, _, fs, k1, k2, k3, k4, k5, hlg⟩
theorem mx_push_1 (h : mx_H) (n : Nat) (c : mx_C) : (mx_push h n c).1 = h.1 + 1 := rfl
theorem mx_push_2 (h : mx_H) (n : Nat) (c : mx_C) : (mx_push h n c).2.1 = h.2.1 + n := rfl
theorem ck3_tw {l : Launch} {D : va_G} {b0 : Nat} {ad : Nat → Nat} {Hb : Heap} {tau : Nat → Int64} {lng : Bool} {mi1 mi2 : Nat} {as : List Value} (h : ck3 lng mi1 mi2 as = true) : mx_Tw (tB l D b0 ad Hb tau) lng mi1 mi2 as := by
  exact ck3_ok ok_all.2.1 ok_all.2.2.1 (isc_ok ok_all.2.2.2.2.1) h
