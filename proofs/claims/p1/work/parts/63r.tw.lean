noncomputable def lo_7 : Value := .float (mx_t 1 59 2)
noncomputable def hi_7 : Value := .float (mx_t 1 57 58)
noncomputable def li_7 : List Value := [lo_7] ++ (pts 1 99 ++ [hi_7])
set_option maxRecDepth 1000000 in
theorem cx_7 : mx_cov 1 (-2147483648) li_7 = true := by decide +kernel
noncomputable def lo_21a : Value := .float (mx_t 1 59 2)
noncomputable def hi_21a : Value := .float (mx_t 1 21 58)
noncomputable def li_21a : List Value := [lo_21a] ++ (pts 1 18 ++ [hi_21a])
set_option maxRecDepth 1000000 in
theorem cx_21a : mx_cov 1 (-2147483648) li_21a = true := by decide +kernel
noncomputable def lo_21b : Value := .float (mx_t 2 59 1)
noncomputable def hi_21b : Value := .float (mx_t 2 12 58)
noncomputable def li_21b : List Value := [lo_21b] ++ (pts 0 10 ++ [hi_21b])
set_option maxRecDepth 1000000 in
theorem cx_21b : mx_cov 2 (-2147483648) li_21b = true := by decide +kernel
noncomputable def lo_37a : Value := .float (mx_t 1 59 2)
noncomputable def hi_37a : Value := .float (mx_t 1 21 58)
noncomputable def li_37a : List Value := [lo_37a] ++ (pts 1 18 ++ [hi_37a])
set_option maxRecDepth 1000000 in
theorem cx_37a : mx_cov 1 (-2147483648) li_37a = true := by decide +kernel
noncomputable def lo_37b : Value := .float (mx_t 2 59 1)
noncomputable def hi_37b : Value := .float (mx_t 2 10 58)
noncomputable def li_37b : List Value := [lo_37b] ++ (pts 0 8 ++ [hi_37b])
set_option maxRecDepth 1000000 in
theorem cx_37b : mx_cov 2 (-2147483648) li_37b = true := by decide +kernel
noncomputable def lo_37c : Value := .float (mx_t 3 59 1)
noncomputable def hi_37c : Value := .float (mx_t 3 4 58)
noncomputable def li_37c : List Value := [lo_37c] ++ (pts 0 2 ++ [hi_37c])
set_option maxRecDepth 1000000 in
theorem cx_37c : mx_cov 3 (-2147483648) li_37c = true := by decide +kernel
noncomputable def lo_38a : Value := .float (mx_t 1 59 1)
noncomputable def hi_38a : Value := .float (mx_t 1 10 58)
noncomputable def li_38a : List Value := [lo_38a] ++ (pts 0 8 ++ [hi_38a])
set_option maxRecDepth 1000000 in
theorem cx_38a : mx_cov 1 (-2147483648) li_38a = true := by decide +kernel
noncomputable def lo_38b : Value := .float (mx_t 2 59 1)
noncomputable def hi_38b : Value := .float (mx_t 2 4 58)
noncomputable def li_38b : List Value := [lo_38b] ++ (pts 0 2 ++ [hi_38b])
set_option maxRecDepth 1000000 in
theorem cx_38b : mx_cov 2 (-2147483648) li_38b = true := by decide +kernel
set_option maxRecDepth 1000000 in
theorem ei_7 : ([lo_7, hi_7].all fun a => ck2 false 96 207 [a]) = true := by decide +kernel
set_option maxRecDepth 1000000 in
theorem ei_21 : ((li_21a.all fun a => [lo_21b, hi_21b].all fun b => ck2 true 110 245 [a, b]) && ([lo_21a, hi_21a].all fun a => (pts 0 10).all fun b => ck2 true 110 245 [a, b])) = true := by decide +kernel
set_option maxRecDepth 1000000 in
theorem ei_37 : (([lo_37a, .float (mx_t 1 3 20), hi_37a].all fun a => li_37b.all fun b => [lo_37c, hi_37c].all fun c => ck2 false 126 275 [a, b, c]) && (([lo_37a, hi_37a].all fun a => li_37b.all fun b => (pts 0 2).all fun c => ck2 false 126 275 [a, b, c]) && ([.float (mx_t 1 3 20)].all fun a => [lo_37b, hi_37b].all fun b => (pts 0 2).all fun c => ck2 false 126 275 [a, b, c]))) = true := by decide +kernel
set_option maxRecDepth 1000000 in
theorem ei_38 : ((li_38a.all fun a => [lo_38b, hi_38b].all fun b => ck2 false 127 276 [a, b]) && ([lo_38a, hi_38a].all fun a => (pts 0 2).all fun b => ck2 false 127 276 [a, b])) = true := by decide +kernel
theorem YX3 {l : Launch} {D : va_G} {b0 : Nat} {ad : Nat → Nat} {Hb : Heap} {tau : Nat → Int64} {ag : Nat → Int64} {d mi : Nat} {as as2 : List Value} {v : Value} {h : mx_H} {V : Nat → mx_C} (hk : rcx d mi as 83 62985 LBm (some v) = true) (ha : as.map (sg (mx_tau ag)) = as2) (hv : nfv v = true) (hY : YH 83 62985 V h) (hK : KM V) : ∃ h2, mx_Ca (tB l D b0 ad Hb tau) d mi as2 h (some v, h2) ∧ ∃ V2, YH 83 62985 V2 h2 := by
  have hb : (LBm.all fun q => Nat.ble 56 q.1) = true := by decide +kernel
  obtain ⟨h2, hca, V2, hY2, -⟩ := YX (l := l) (D := D) (b0 := b0) (ad := ad) (Hb := Hb) (tau := tau) (mx_tau_in ag) hk hY (fun q hq => by
    have hq2 : q ∈ LB := List.mem_of_mem_drop hq
    obtain ⟨h1, h2⟩ := mx_and (List.all_eq_true.mp lb_nf q hq2)
    obtain ⟨h2, h3⟩ := mx_and h2
    have h5 := Nat.ble_eq.mp (List.all_eq_true.mp hb q hq)
    exact ⟨mx_blt h1, h2, pe_of ((hK q.1 h5 (mx_blt h1)).trans (show VB q.1 = q.2 from ovW_mem lb_nd hq2)) h3⟩)
  rw [ha] at hca
  refine ⟨h2, ?_, V2, hY2⟩
  have e : (some v).map (sg (mx_tau ag)) = some v := congrArg some (nfv_ok hv)
  rw [e] at hca
  exact hca
theorem in_pts {v : Value} {a n : Nat} (h : v ∈ pts a n) : ∃ k, k < n ∧ v = .int (nI (a + k)) := by
  obtain ⟨k, hk, e⟩ := List.mem_map.mp h
  exact ⟨k, List.mem_range.mp hk, e.symm⟩
theorem li_in {v lo hi : Value} {a n : Nat} (h : v ∈ [lo] ++ (pts a n ++ [hi])) : v = lo ∨ (∃ k, k < n ∧ v = .int (nI (a + k))) ∨ v = hi := by
  rcases List.mem_append.mp h with h | h
  · exact Or.inl (List.mem_singleton.mp h)
  · rcases List.mem_append.mp h with h | h
    · exact Or.inr (Or.inl (in_pts h))
    · exact Or.inr (Or.inr (List.mem_singleton.mp h))
theorem pts_in {a n k : Nat} (h : k < n) : Value.int (nI (a + k)) ∈ pts a n := List.mem_map.mpr ⟨k, List.mem_range.mpr h, rfl⟩
/-- a number between bounds, told by its place -/
theorem sg_t {ag : Nat → Int64} {t : UInt32} {k : Nat} {x : Int32} (hag : ag 1 = x.toInt64) (hx : nI k = x) (hk : k < 100) (h8 : t.toNat % 8 = 1) (h9 : t.toNat < 65536) (h1 : (mx_iv t.toNat).1 ≤ (k : Int)) (h2 : (k : Int) ≤ (mx_iv t.toNat).2) : sg (mx_tau ag) (.float t) = .int x := by
  have e1 : (ag 1).toInt = (k : Int) := by rw [hag, Int32.toInt_toInt64, ← hx, nI_toInt (by omega)]
  have e2 : mx_tau ag t.toNat = ag 1 := by
    have := mx_tau_eq (ag := ag) (t := t.toNat) (by rw [h8, e1]; exact h1) (by rw [h8, e1]; exact h2)
    rw [this, h8]
  show Value.int (mx_fl (mx_tau ag) t.toNat) = _
  unfold mx_fl
  rw [if_pos h9, e2, hag, i32_64]
section TWH
variable {s : State} {l : Launch} {D : va_G} {a0 : Nat} {ag : Nat → Int64} {xs : Nat → Int32}
theorem tw_7 (hag : (∀ i, 1 ≤ i → i ≤ 5 → ag i = (xs i).toInt64) ∧ ag 6 = ((xs 1).toInt64 <<< ((32 : Int32).toInt64 &&& 63) ||| ((xs 2).toInt64 &&& 4294967295)) ∧ ag 7 = ((xs 3).toInt64 <<< ((32 : Int32).toInt64 &&& 63) ||| ((xs 4).toInt64 &&& 4294967295))) : ∃ as : List Value, as.map (mx_v (tB l D s.heap.size (fun _ => a0) s.heap (mx_tau ag)).2.1.1) = [.int (xs 1)] ∧ as.length = 1 ∧ mx_Tw (tB l D s.heap.size (fun _ => a0) s.heap (mx_tau ag)) false 96 207 as := by
  obtain ⟨a, ha, ea⟩ := mx_cov_all (E := (tB l D s.heap.size (fun _ => a0) s.heap (mx_tau ag)).2.1.1) rfl (p := 1) (hag.1 1 (by decide) (by decide)) cx_7
  have inv : a ∈ [lo_7, hi_7] → ∃ as : List Value, as.map (mx_v (tB l D s.heap.size (fun _ => a0) s.heap (mx_tau ag)).2.1.1) = [.int (xs 1)] ∧ as.length = 1 ∧ mx_Tw (tB l D s.heap.size (fun _ => a0) s.heap (mx_tau ag)) false 96 207 as := fun h => ⟨[a], by simp only [List.map_cons, List.map_nil, ea], rfl, ck2_ok (List.all_eq_true.mp ei_7 a h)⟩
  rcases li_in ha with h | ⟨k, hk, ha⟩ | h
  · exact inv (by rw [h]; exact List.mem_cons_self)
  · have x1 : nI (1 + k) = xs 1 := by
      rw [ha] at ea
      have ea : Value.int (nI (1 + k)) = Value.int (xs 1) := ea
      injection ea
    obtain ⟨q1, hc1, V1, hY1, hK1⟩ := YX2 (l := l) (D := D) (b0 := s.heap.size) (ad := fun _ => a0) (Hb := s.heap) (tau := mx_tau ag) (ag := ag) (ex_7 (n := 1 + k) (by omega) (by omega)) rfl rfl
    obtain ⟨q2, hc2, V2, hY2⟩ := mo_all (l := l) (D := D) (b0 := s.heap.size) (ad := fun _ => a0) (Hb := s.heap) (tau := mx_tau ag) (b := 1 + k) (by omega) (by omega) hY1 hK1
    exact ⟨[.int (nI (1 + k))], by rw [x1]; rfl, rfl, ⟨.int 1, q1, q2, _, hc1, hc2, hY1.cell rfl ((hK1 56 (by decide) (by decide)).trans vb_56), by rw [hY2.1]; decide, by rw [hY2.2.1]; decide, ⟨_, rfl⟩⟩⟩
  · exact inv (by rw [h]; exact List.mem_cons_of_mem _ List.mem_cons_self)
theorem tw_38 (hag : (∀ i, 1 ≤ i → i ≤ 5 → ag i = (xs i).toInt64) ∧ ag 6 = ((xs 1).toInt64 <<< ((32 : Int32).toInt64 &&& 63) ||| ((xs 2).toInt64 &&& 4294967295)) ∧ ag 7 = ((xs 3).toInt64 <<< ((32 : Int32).toInt64 &&& 63) ||| ((xs 4).toInt64 &&& 4294967295))) : ∃ as : List Value, as.map (mx_v (tB l D s.heap.size (fun _ => a0) s.heap (mx_tau ag)).2.1.1) = [.int (xs 1), .int (xs 2)] ∧ as.length = 2 ∧ mx_Tw (tB l D s.heap.size (fun _ => a0) s.heap (mx_tau ag)) false 127 276 as := by
  obtain ⟨a, ha, ea⟩ := mx_cov_all (E := (tB l D s.heap.size (fun _ => a0) s.heap (mx_tau ag)).2.1.1) rfl (p := 1) (hag.1 1 (by decide) (by decide)) cx_38a
  obtain ⟨b, hb, eb⟩ := mx_cov_all (E := (tB l D s.heap.size (fun _ => a0) s.heap (mx_tau ag)).2.1.1) rfl (p := 2) (hag.1 2 (by decide) (by decide)) cx_38b
  have inv : (ck2 false 127 276 [a, b] = true) → ∃ as : List Value, as.map (mx_v (tB l D s.heap.size (fun _ => a0) s.heap (mx_tau ag)).2.1.1) = [.int (xs 1), .int (xs 2)] ∧ as.length = 2 ∧ mx_Tw (tB l D s.heap.size (fun _ => a0) s.heap (mx_tau ag)) false 127 276 as := fun h => ⟨[a, b], by simp only [List.map_cons, List.map_nil, ea, eb], rfl, ck2_ok h⟩
  have i1 : b ∈ [lo_38b, hi_38b] → ck2 false 127 276 [a, b] = true := fun h => List.all_eq_true.mp (List.all_eq_true.mp (mx_and ei_38).1 a ha) b h
  rcases li_in hb with h | ⟨w, hw, hb⟩ | h
  · exact inv (i1 (by rw [h]; exact List.mem_cons_self))
  · have i2 : a ∈ [lo_38a, hi_38a] → ck2 false 127 276 [a, b] = true := fun h => List.all_eq_true.mp (List.all_eq_true.mp (mx_and ei_38).2 a h) b (by rw [hb]; exact pts_in hw)
    rcases li_in ha with h | ⟨n, hn, ha⟩ | h
    · exact inv (i2 (by rw [h]; exact List.mem_cons_self))
    · rw [Nat.zero_add] at ha hb
      have x1 : nI n = xs 1 := by
        rw [ha] at ea
        have ea : Value.int (nI n) = Value.int (xs 1) := ea
        injection ea
      have x2 : nI w = xs 2 := by
        rw [hb] at eb
        have eb : Value.int (nI w) = Value.int (xs 2) := eb
        injection eb
      obtain ⟨q1, hc1, V1, hY1, hK1⟩ := YX2 (l := l) (D := D) (b0 := s.heap.size) (ad := fun _ => a0) (Hb := s.heap) (tau := mx_tau ag) (ag := ag) (ex_38 n hn w hw) rfl rfl
      obtain ⟨q2, hc2, V2, hY2⟩ := mm_all (l := l) (D := D) (b0 := s.heap.size) (ad := fun _ => a0) (Hb := s.heap) (tau := mx_tau ag) hn hw hY1 hK1
      exact ⟨[.int (nI n), .int (nI w)], by rw [x1, x2]; rfl, rfl, ⟨.int 1, q1, q2, _, hc1, hc2, hY1.cell rfl ((hK1 56 (by decide) (by decide)).trans vb_56), by rw [hY2.1]; decide, by rw [hY2.2.1]; decide, ⟨_, rfl⟩⟩⟩
    · exact inv (i2 (by rw [h]; exact List.mem_cons_of_mem _ List.mem_cons_self))
  · exact inv (i1 (by rw [h]; exact List.mem_cons_of_mem _ List.mem_cons_self))
theorem tw_37 (hag : (∀ i, 1 ≤ i → i ≤ 5 → ag i = (xs i).toInt64) ∧ ag 6 = ((xs 1).toInt64 <<< ((32 : Int32).toInt64 &&& 63) ||| ((xs 2).toInt64 &&& 4294967295)) ∧ ag 7 = ((xs 3).toInt64 <<< ((32 : Int32).toInt64 &&& 63) ||| ((xs 4).toInt64 &&& 4294967295))) : ∃ as : List Value, as.map (mx_v (tB l D s.heap.size (fun _ => a0) s.heap (mx_tau ag)).2.1.1) = [.int (xs 1), .int (xs 2), .int (xs 3)] ∧ as.length = 3 ∧ mx_Tw (tB l D s.heap.size (fun _ => a0) s.heap (mx_tau ag)) false 126 275 as := by
  obtain ⟨a, ha, ea⟩ := mx_cov_all (E := (tB l D s.heap.size (fun _ => a0) s.heap (mx_tau ag)).2.1.1) rfl (p := 1) (hag.1 1 (by decide) (by decide)) cx_37a
  obtain ⟨b, hb, eb⟩ := mx_cov_all (E := (tB l D s.heap.size (fun _ => a0) s.heap (mx_tau ag)).2.1.1) rfl (p := 2) (hag.1 2 (by decide) (by decide)) cx_37b
  obtain ⟨c, hc, ec⟩ := mx_cov_all (E := (tB l D s.heap.size (fun _ => a0) s.heap (mx_tau ag)).2.1.1) rfl (p := 3) (hag.1 3 (by decide) (by decide)) cx_37c
  have inv : ∀ a2, mx_v (tB l D s.heap.size (fun _ => a0) s.heap (mx_tau ag)).2.1.1 a2 = .int (xs 1) → (ck2 false 126 275 [a2, b, c] = true) → ∃ as : List Value, as.map (mx_v (tB l D s.heap.size (fun _ => a0) s.heap (mx_tau ag)).2.1.1) = [.int (xs 1), .int (xs 2), .int (xs 3)] ∧ as.length = 3 ∧ mx_Tw (tB l D s.heap.size (fun _ => a0) s.heap (mx_tau ag)) false 126 275 as := fun a2 ea h => ⟨[a2, b, c], by simp only [List.map_cons, List.map_nil, ea, eb, ec], rfl, ck2_ok h⟩
  have i1 : ∀ a2, a2 ∈ [lo_37a, .float (mx_t 1 3 20), hi_37a] → c ∈ [lo_37c, hi_37c] → ck2 false 126 275 [a2, b, c] = true := fun a2 h1 h2 => List.all_eq_true.mp (List.all_eq_true.mp (List.all_eq_true.mp (mx_and ei_37).1 a2 h1) b hb) c h2
  have i2 : ∀ a2, a2 ∈ [lo_37a, hi_37a] → c ∈ pts 0 2 → ck2 false 126 275 [a2, b, c] = true := fun a2 h1 h2 => List.all_eq_true.mp (List.all_eq_true.mp (List.all_eq_true.mp (mx_and (mx_and ei_37).2).1 a2 h1) b hb) c h2
  have i3 : ∀ a2, a2 ∈ [.float (mx_t 1 3 20)] → b ∈ [lo_37b, hi_37b] → c ∈ pts 0 2 → ck2 false 126 275 [a2, b, c] = true := fun a2 h1 h2 h3 => List.all_eq_true.mp (List.all_eq_true.mp (List.all_eq_true.mp (mx_and (mx_and ei_37).2).2 a2 h1) b h2) c h3
  -- the first number, as it is tried: below, between, above
  have ka : (∃ a2, mx_v (tB l D s.heap.size (fun _ => a0) s.heap (mx_tau ag)).2.1.1 a2 = .int (xs 1) ∧ a2 ∈ [lo_37a, hi_37a]) ∨ ((∃ k, k < 18 ∧ nI (1 + k) = xs 1) ∧ sg (mx_tau ag) (.float (mx_t 1 3 20)) = .int (xs 1)) := by
    rcases li_in ha with h | ⟨k, hk, ha⟩ | h
    · exact Or.inl ⟨a, ea, by rw [h]; exact List.mem_cons_self⟩
    · have x1 : nI (1 + k) = xs 1 := by
        rw [ha] at ea
        have ea : Value.int (nI (1 + k)) = Value.int (xs 1) := ea
        injection ea
      have k1 : ((1 : Nat) : Int) ≤ ((1 + k : Nat) : Int) := by omega
      have k2 : ((1 + k : Nat) : Int) ≤ ((18 : Nat) : Int) := by omega
      exact Or.inr ⟨⟨k, hk, x1⟩, sg_t (hag.1 1 (by decide) (by decide)) x1 (by omega) (by decide +kernel) (by decide +kernel) (Int.le_trans (by decide +kernel) k1) (Int.le_trans k2 (by decide +kernel))⟩
    · exact Or.inl ⟨a, ea, by rw [h]; exact List.mem_cons_of_mem _ List.mem_cons_self⟩
  have low : ∀ a2, a2 ∈ [lo_37a, hi_37a] → a2 ∈ [lo_37a, .float (mx_t 1 3 20), hi_37a] := fun a2 h => by
    rcases List.mem_cons.mp h with h | h
    · rw [h]; exact List.mem_cons_self
    · rw [List.mem_singleton.mp h]; exact List.mem_cons_of_mem _ (List.mem_cons_of_mem _ List.mem_cons_self)
  rcases li_in hc with h | ⟨w, hw, hc⟩ | h
  · have hc2 : c ∈ [lo_37c, hi_37c] := by rw [h]; exact List.mem_cons_self
    rcases ka with ⟨a2, e2, h2⟩ | ⟨-, e2⟩
    · exact inv a2 e2 (i1 a2 (low a2 h2) hc2)
    · exact inv (.float (mx_t 1 3 20)) e2 (i1 _ (List.mem_cons_of_mem _ List.mem_cons_self) hc2)
  · have hc3 : c ∈ pts 0 2 := by rw [hc]; exact pts_in hw
    rcases ka with ⟨a2, e2, h2⟩ | ⟨⟨k, hk, x1⟩, e2⟩
    · exact inv a2 e2 (i2 a2 h2 hc3)
    · rcases li_in hb with h | ⟨n, hn, hb⟩ | h
      · exact inv (.float (mx_t 1 3 20)) e2 (i3 _ List.mem_cons_self (by rw [h]; exact List.mem_cons_self) hc3)
      · rw [Nat.zero_add] at hb hc
        have x2 : nI n = xs 2 := by
          rw [hb] at eb
          have eb : Value.int (nI n) = Value.int (xs 2) := eb
          injection eb
        have x3 : nI w = xs 3 := by
          rw [hc] at ec
          have ec : Value.int (nI w) = Value.int (xs 3) := ec
          injection ec
        obtain ⟨q1, hc1, V1, hY1, hK1⟩ := YX2 (l := l) (D := D) (b0 := s.heap.size) (ad := fun _ => a0) (Hb := s.heap) (tau := mx_tau ag) (ag := ag) (as2 := [.ref 1, .int (nI (1 + k)), .int (nI n), .int (nI w)]) (ex_37 n hn w hw) (by rw [x1, ← e2]; rfl) rfl
        obtain ⟨q2, hc2, V2, hY2⟩ := mc_all (l := l) (D := D) (b0 := s.heap.size) (ad := fun _ => a0) (Hb := s.heap) (tau := mx_tau ag) (k := 1 + k) (by omega) (by omega) hn hw hY1 hK1
        exact ⟨[.int (nI (1 + k)), .int (nI n), .int (nI w)], by rw [x1, x2, x3]; rfl, rfl, ⟨.int 1, q1, q2, _, hc1, hc2, hY1.cell rfl ((hK1 56 (by decide) (by decide)).trans vb_56), by rw [hY2.1]; decide, by rw [hY2.2.1]; decide, ⟨_, rfl⟩⟩⟩
      · exact inv (.float (mx_t 1 3 20)) e2 (i3 _ List.mem_cons_self (by rw [h]; exact List.mem_cons_of_mem _ List.mem_cons_self) hc3)
  · have hc2 : c ∈ [lo_37c, hi_37c] := by rw [h]; exact List.mem_cons_of_mem _ List.mem_cons_self
    rcases ka with ⟨a2, e2, h2⟩ | ⟨-, e2⟩
    · exact inv a2 e2 (i1 a2 (low a2 h2) hc2)
    · exact inv (.float (mx_t 1 3 20)) e2 (i1 _ (List.mem_cons_of_mem _ List.mem_cons_self) hc2)
theorem tw_21 (hag : (∀ i, 1 ≤ i → i ≤ 5 → ag i = (xs i).toInt64) ∧ ag 6 = ((xs 1).toInt64 <<< ((32 : Int32).toInt64 &&& 63) ||| ((xs 2).toInt64 &&& 4294967295)) ∧ ag 7 = ((xs 3).toInt64 <<< ((32 : Int32).toInt64 &&& 63) ||| ((xs 4).toInt64 &&& 4294967295))) : ∃ as : List Value, as.map (mx_v (tB l D s.heap.size (fun _ => a0) s.heap (mx_tau ag)).2.1.1) = [.int (xs 1), .int (xs 2)] ∧ as.length = 2 ∧ mx_Tw (tB l D s.heap.size (fun _ => a0) s.heap (mx_tau ag)) true 110 245 as := by
  obtain ⟨a, ha, ea⟩ := mx_cov_all (E := (tB l D s.heap.size (fun _ => a0) s.heap (mx_tau ag)).2.1.1) rfl (p := 1) (hag.1 1 (by decide) (by decide)) cx_21a
  obtain ⟨b, hb, eb⟩ := mx_cov_all (E := (tB l D s.heap.size (fun _ => a0) s.heap (mx_tau ag)).2.1.1) rfl (p := 2) (hag.1 2 (by decide) (by decide)) cx_21b
  have inv : (ck2 true 110 245 [a, b] = true) → ∃ as : List Value, as.map (mx_v (tB l D s.heap.size (fun _ => a0) s.heap (mx_tau ag)).2.1.1) = [.int (xs 1), .int (xs 2)] ∧ as.length = 2 ∧ mx_Tw (tB l D s.heap.size (fun _ => a0) s.heap (mx_tau ag)) true 110 245 as := fun h => ⟨[a, b], by simp only [List.map_cons, List.map_nil, ea, eb], rfl, ck2_ok h⟩
  have i1 : b ∈ [lo_21b, hi_21b] → ck2 true 110 245 [a, b] = true := fun h => List.all_eq_true.mp (List.all_eq_true.mp (mx_and ei_21).1 a ha) b h
  rcases li_in hb with h | ⟨n, hn, hb⟩ | h
  · exact inv (i1 (by rw [h]; exact List.mem_cons_self))
  · have i2 : a ∈ [lo_21a, hi_21a] → ck2 true 110 245 [a, b] = true := fun h => List.all_eq_true.mp (List.all_eq_true.mp (mx_and ei_21).2 a h) b (by rw [hb]; exact pts_in hn)
    rcases li_in ha with h | ⟨k, hk, ha⟩ | h
    · exact inv (i2 (by rw [h]; exact List.mem_cons_self))
    · rw [Nat.zero_add] at hb
      have x1 : nI (1 + k) = xs 1 := by
        rw [ha] at ea
        have ea : Value.int (nI (1 + k)) = Value.int (xs 1) := ea
        injection ea
      have x2 : nI n = xs 2 := by
        rw [hb] at eb
        have eb : Value.int (nI n) = Value.int (xs 2) := eb
        injection eb
      by_cases k0 : k = 0
      · subst k0
        obtain ⟨q1, hc1, V1, hY1, hK1⟩ := YX2 (l := l) (D := D) (b0 := s.heap.size) (ad := fun _ => a0) (Hb := s.heap) (tau := mx_tau ag) (ag := ag) (ex_21 n hn).1 rfl rfl
        obtain ⟨q2, hc2, V2, hY2⟩ := YX3 (l := l) (D := D) (b0 := s.heap.size) (ad := fun _ => a0) (Hb := s.heap) (tau := mx_tau ag) (ag := ag) (em_21 n hn).1 rfl rfl hY1 hK1
        exact ⟨[.int (nI (1 + 0)), .int (nI n)], by rw [x1, x2]; rfl, rfl, ⟨.long (0 + pw2 n), q1, q2, _, hc1, hc2, hY1.cell rfl ((hK1 56 (by decide) (by decide)).trans vb_56), by rw [hY2.1]; decide, by rw [hY2.2.1]; decide, ⟨_, rfl⟩⟩⟩
      · have k1 : ((2 : Nat) : Int) ≤ ((1 + k : Nat) : Int) := by omega
        have k2 : ((1 + k : Nat) : Int) ≤ ((18 : Nat) : Int) := by omega
        have e2 : sg (mx_tau ag) (.float (mx_t 1 4 20)) = .int (xs 1) := sg_t (hag.1 1 (by decide) (by decide)) x1 (by omega) (by decide +kernel) (by decide +kernel) (Int.le_trans (by decide +kernel) k1) (Int.le_trans k2 (by decide +kernel))
        obtain ⟨q1, hc1, V1, hY1, hK1⟩ := YX2 (l := l) (D := D) (b0 := s.heap.size) (ad := fun _ => a0) (Hb := s.heap) (tau := mx_tau ag) (ag := ag) (as2 := [.ref 1, .int (xs 1), .int (nI n)]) (ex_21 n hn).2 (by rw [← e2]; rfl) rfl
        obtain ⟨q2, hc2, V2, hY2⟩ := YX3 (l := l) (D := D) (b0 := s.heap.size) (ad := fun _ => a0) (Hb := s.heap) (tau := mx_tau ag) (ag := ag) (as2 := [.ref 56, .int (xs 1), .int (nI n)]) (em_21 n hn).2 (by rw [← e2]; rfl) rfl hY1 hK1
        exact ⟨[.int (xs 1), .int (nI n)], by rw [x2]; rfl, rfl, ⟨.long (0 + 0), q1, q2, _, hc1, hc2, hY1.cell rfl ((hK1 56 (by decide) (by decide)).trans vb_56), by rw [hY2.1]; decide, by rw [hY2.2.1]; decide, ⟨_, rfl⟩⟩⟩
    · exact inv (i2 (by rw [h]; exact List.mem_cons_of_mem _ List.mem_cons_self))
  · exact inv (i1 (by rw [h]; exact List.mem_cons_of_mem _ List.mem_cons_self))
end TWH
