section JL
variable {B : mx_B} {M : mx_M} {d pc nx tg : Nat} {ls : mx_L} {st rest : List Value} {h : mx_H} {Post : mx_R → Prop} {n s : Nat} {V : Nat → mx_C}
theorem Jlald {a m i : Nat} {j : Int32} {T : mx_A} {v : Value} (hY : YH n s V h) (hs : mx_Sn B M pc (mx_lald nx)) (ha : Nat.blt a n = true) (hV : V a = .inr (.long, m, T)) (ji : j.toNatClampNeg = i ∧ ¬ j < 0 ∧ i < m) (e : mx_get 13 T i = v) (hj : mx_J B M d nx ls (v :: rest) h Post) : mx_J B M d pc ls (.int j :: .ref a :: rest) h Post := by
  obtain ⟨T2, hc, hT⟩ := hY.arr ha hV
  obtain ⟨j1, j2, j3⟩ := ji
  refine mx_J.step hs (fun k call => ?_) hj
  have hb : Nat.blt i m = true := Nat.ble_eq.mpr j3
  unfold mx_lald
  simp only [hc, if_neg j2, j1, hb, cond_true, hT i j3, e]
theorem Jlast {KC a m i : Nat} {j : Int32} {x : Int64} {T : mx_A} (hY : YH n s V h) (hs : mx_Sn B M pc (mx_last KC nx)) (ha : Nat.blt a n = true) (hk : Nat.blt a KC = false) (hV : V a = .inr (.long, m, T)) (ji : j.toNatClampNeg = i ∧ ¬ j < 0 ∧ i < m) (hm : m ≤ 8192) (hj : ∀ h2, YH n s (upV V a (.inr (.long, m, mx_set 13 T i (.long x)))) h2 → mx_J B M d nx ls rest h2 Post) : mx_J B M d pc ls (.long x :: .int j :: .ref a :: rest) h Post := by
  obtain ⟨T2, hc, hT⟩ := hY.arr ha hV
  obtain ⟨j1, j2, j3⟩ := ji
  refine mx_J.step (h2 := mx_put h a (.inr (.long, m, mx_set 13 T2 i (.long x)))) hs (fun k call => ?_) (hj _ (hY.put ha (Or.inr ⟨_, _, _, _, rfl, rfl, fun q hq => ?_⟩)))
  · have hb : Nat.blt i m = true := Nat.ble_eq.mpr j3
    unfold mx_last
    simp only [hc, hk, if_neg j2, j1, hb, cond_true, cond_false]
  · rw [mx_get_set _ 13 _ _ _ (by show i < 8192; omega) (by show q < 8192; omega), mx_get_set _ 13 _ _ _ (by show i < 8192; omega) (by show q < 8192; omega), hT q hq]
end JL
theorem peSS {ty : FieldType} {n i : Nat} {T : mx_A} {a b : Value} (hi : i < 8192) (hn : n ≤ 8192) : mx_pe (.inr (ty, n, mx_set 13 (mx_set 13 T i a) i b)) (.inr (ty, n, mx_set 13 T i b)) := by
  refine Or.inr ⟨ty, n, _, _, rfl, rfl, fun j hj => ?_⟩
  have j1 : j < 2 ^ 13 := by show j < 8192; omega
  rw [mx_get_set _ 13 _ i j hi j1, mx_get_set _ 13 _ i j hi j1, mx_get_set _ 13 _ i j hi j1]
  by_cases h : j = i
  · rw [if_pos h, if_pos h]
  · rw [if_neg h, if_neg h, if_neg h]
/-- a closed run of which only the answer is asked -/
noncomputable def rcx2 (n s : Nat) (p : List (Nat × mx_C)) (v : Option Value) (o : Option mx_R) : Bool := match o with
  | some r => oq r.1 v && (Nat.beq r.2.1 n && (Nat.beq r.2.2.1 s && ((List.range n).all fun k => bif kin p k then mx_nj (mx_get 9 r.2.2.2 k) else !(mx_nj (mx_get 9 r.2.2.2 k)))))
  | none => false
noncomputable def rcx (d mi : Nat) (as : List Value) (n s : Nat) (p : List (Nat × mx_C)) (v : Option Value) : Bool := rcx2 n s p v (mx_ev (mx_pg tinfo) 100000 d mi as (hL n s p))
theorem YX {l : Launch} {D : va_G} {b0 : Nat} {ad : Nat → Nat} {Hb : Heap} {tau tau2 : Nat → Int64} (ht2 : ∀ t, (mx_iv t).1 ≤ (mx_iv t).2 → (mx_iv t).1 ≤ (tau2 t).toInt ∧ (tau2 t).toInt ≤ (mx_iv t).2) {d mi : Nat} {as : List Value} {n s : Nat} {p : List (Nat × mx_C)} {v : Option Value} {h : mx_H} {V : Nat → mx_C} (hk : rcx d mi as n s p v = true) (hY : YH n s V h) (hp : ∀ q ∈ p, q.1 < n ∧ mx_nj q.2 = true ∧ mx_pe (V q.1) (sgC tau2 q.2)) :
    ∃ h2, mx_Ca (tB l D b0 ad Hb tau) d mi (as.map (sg tau2)) h (v.map (sg tau2), h2) ∧ ∃ V2, YH n s V2 h2 ∧ ∀ k, kin p k = false → V2 k = V k := by
  obtain ⟨y1, y2, y3, y4⟩ := hY
  have m3 : ∀ q ∈ p, q.1 < n ∧ mx_nj q.2 = true ∧ mx_pe (mx_get 9 h.2.2 q.1) (sgC tau2 q.2) := fun q hq => ⟨(hp q hq).1, (hp q hq).2.1, (y4 q.1 (hp q hq).1).trans (hp q hq).2.2⟩
  unfold rcx at hk
  cases he : mx_ev (mx_pg tinfo) 100000 d mi as (hL n s p) with
  | none => rw [he] at hk; cases hk
  | some rj =>
    rw [he] at hk
    obtain ⟨g1, g2⟩ := mx_and (show (oq rj.1 v && (Nat.beq rj.2.1 n && (Nat.beq rj.2.2.1 s && ((List.range n).all fun k => bif kin p k then mx_nj (mx_get 9 rj.2.2.2 k) else !(mx_nj (mx_get 9 rj.2.2.2 k)))))) = true from hk)
    obtain ⟨g2, g3⟩ := mx_and g2
    obtain ⟨g3, g5⟩ := mx_and g3
    have c1 : rj.2.1 = n := Nat.eq_of_beq_eq_true g2
    have c2 : rj.2.2.1 = s := Nat.eq_of_beq_eq_true g3
    have hv : rj.1 = v := oq_ok g1
    have hp512 : ∀ q ∈ p, q.1 < 512 := fun q hq => by have := (m3 q hq).1; omega
    have hvis : ∀ k, k < n → kin p k = true → mx_nj (mx_get 9 rj.2.2.2 k) = true := by
      intro k hk hkin
      have h1 := List.all_eq_true.mp g5 k (List.mem_range.mpr hk)
      rw [hkin, cond_true] at h1
      exact h1
    have hhid : ∀ k, k < n → kin p k = false → mx_nj (mx_get 9 rj.2.2.2 k) = false := by
      intro k hk hkin
      have h1 := List.all_eq_true.mp g5 k (List.mem_range.mpr hk)
      rw [hkin, cond_false, Bool.not_eq_true'] at h1
      exact h1
    let fh : Nat → Bool := fun k => !(kin p k)
    let hm : mx_H := (rj.2.1, rj.2.2.1, mx_mapT (sgC tau2) 9 rj.2.2.2)
    have hget : ∀ k, k < 512 → mx_get 9 (mx_mix fh h hm).2.2 k = if fh k = true then mx_get 9 h.2.2 k else sgC tau2 (mx_get 9 rj.2.2.2 k) := by
      intro k hk
      rw [mx_mix_at fh h hm hk]
      by_cases hf : fh k = true
      · rw [if_pos hf, if_pos hf]
      · rw [if_neg hf, if_neg hf]
        exact mx_get_map (sgC tau2) 9 rj.2.2.2 k
    have hfh : ∀ k, (fh k = true ↔ kin p k = false) := fun k => by show (!(kin p k)) = true ↔ _; rw [Bool.not_eq_true']
    refine ⟨mx_mix fh h hm, ?_, fun k => bif kin p k then mx_get 9 (mx_mix fh h hm).2.2 k else V k, ⟨c1, c2, y3, fun k hk => ?_⟩, fun k hk => by show (bif kin p k then _ else V k) = V k; rw [hk]; rfl⟩
    · rw [← hv]
      refine mx_trC ht2 (hj := hL n s p) (hr := mx_mix fh h hm) (fun Hb2 t2 => mx_Ca.of (ev_all 100000 d) he) (kin p) y1.symm y2.symm rfl rfl ?_ ?_ ?_ ?_
      · intro k hk hf
        rw [y1] at hk
        show mx_nj (mx_get 9 (hT p) k) = true ∧ mx_pe (mx_get 9 h.2.2 k) (sgC tau2 (mx_get 9 (hT p) k))
        rcases hT_get hp512 (show k < 512 by omega) with ⟨q, hq, hqk, he2⟩ | ⟨hno, he2⟩
        · obtain ⟨b1, b2, b3⟩ := m3 q hq
          rw [he2]
          rw [hqk] at b3
          exact ⟨b2, b3⟩
        · rw [hf] at hno; cases hno
      · intro k hk hf
        rw [y1] at hk
        show mx_nj (mx_get 9 (hT p) k) = false
        rcases hT_get hp512 (show k < 512 by omega) with ⟨q, hq, hqk, he2⟩ | ⟨hno, he2⟩
        · have := kin_mem hq; rw [hqk, hf] at this; cases this
        · rw [he2]; rfl
      · intro k hk hf
        have hk3 : k < n := by rw [← c1]; exact hk
        refine ⟨hvis k hk3 hf, ?_⟩
        rw [hget k (by omega), if_neg (fun z => by have := (hfh k).mp z; rw [hf] at this; cases this)]
      · intro k hk hf
        have hk3 : k < n := by rw [← c1]; exact hk
        exact ⟨by rw [y1]; exact hk3, hhid k hk3 hf, by rw [hget k (by omega), if_pos ((hfh k).mpr hf)]⟩
    · show mx_pe _ (bif kin p k then _ else V k)
      cases hb : kin p k with
      | true => exact Or.inl rfl
      | false =>
        rw [hget k (by omega), if_pos ((hfh k).mpr hb)]
        exact y4 k hk
theorem ovW_mem {W : mx_C} : ∀ {p : List (Nat × mx_C)} {q : Nat × mx_C}, (p.map Prod.fst).Nodup → q ∈ p → ovW W p q.1 = q.2
  | [], q, _, hq => by cases hq
  | q0 :: p, q, hn, hq => by
    rw [List.map_cons, List.nodup_cons] at hn
    show (bif Nat.beq q0.1 q.1 then q0.2 else ovW W p q.1) = q.2
    rcases List.mem_cons.mp hq with rfl | hq
    · rw [Nat.beq_refl]; rfl
    · cases hb : Nat.beq q0.1 q.1 with
      | true =>
        have e : q0.1 = q.1 := Nat.eq_of_beq_eq_true hb
        exact absurd (List.mem_map.mpr ⟨q, hq, e.symm⟩) hn.1
      | false => exact ovW_mem hn.2 hq
noncomputable def LBc : List (Nat × mx_C) := LB.take 54
set_option maxRecDepth 1000000 in
theorem lb_nf : (LB.all fun q => Nat.blt q.1 83 && (mx_nj q.2 && nfC q.2)) = true := by decide +kernel
set_option maxRecDepth 1000000 in
theorem lb_nd : (LB.map Prod.fst).Nodup := by decide +kernel
theorem lb_hp {tau : Nat → Int64} : ∀ q ∈ LBc, q.1 < 83 ∧ mx_nj q.2 = true ∧ mx_pe (VB q.1) (sgC tau q.2) := by
  intro q hq
  have hq : q ∈ LB := List.mem_of_mem_take hq
  obtain ⟨h1, h2⟩ := mx_and (List.all_eq_true.mp lb_nf q hq)
  obtain ⟨h2, h3⟩ := mx_and h2
  exact ⟨mx_blt h1, h2, pe_of (show VB q.1 = q.2 from ovW_mem lb_nd hq) h3⟩
theorem lb_km {V : Nat → mx_C} (h : ∀ k, kin LBc k = false → V k = VB k) : KM V := by
  intro k h1 h2
  refine h k ?_
  have : ∀ k, k < 83 → 56 ≤ k → kin LBc k = false := by decide +kernel
  exact this k h2 h1
theorem YX2 {l : Launch} {D : va_G} {b0 : Nat} {ad : Nat → Nat} {Hb : Heap} {tau : Nat → Int64} {ag : Nat → Int64} {d mi : Nat} {as as2 : List Value} {v : Value} (hk : rcx d mi as 83 62985 LBc (some v) = true) (ha : as.map (sg (mx_tau ag)) = as2) (hv : nfv v = true) : ∃ h2, mx_Ca (tB l D b0 ad Hb tau) d mi as2 h_4 (some v, h2) ∧ ∃ V2, YH 83 62985 V2 h2 ∧ KM V2 := by
  obtain ⟨h2, hca, V2, hY2, hf⟩ := YX (l := l) (D := D) (b0 := b0) (ad := ad) (Hb := Hb) (tau := tau) (mx_tau_in ag) hk YB lb_hp
  rw [ha] at hca
  refine ⟨h2, ?_, V2, hY2, lb_km hf⟩
  have e : (some v).map (sg (mx_tau ag)) = some v := congrArg some (nfv_ok hv)
  rw [e] at hca
  exact hca
set_option maxRecDepth 1000000 in
theorem ex_37 : ∀ n, n < 8 → ∀ w, w < 2 → rcx 30 126 [.ref 1, .float (mx_t 1 3 20), .int (nI n), .int (nI w)] 83 62985 LBc (some (.int 1)) = true := by decide +kernel
set_option maxRecDepth 1000000 in
theorem ex_38 : ∀ n, n < 8 → ∀ w, w < 2 → rcx 30 127 [.ref 1, .int (nI n), .int (nI w)] 83 62985 LBc (some (.int 1)) = true := by decide +kernel
def pw2 : Nat → Int64
  | 0 => 1
  | i + 1 => 0 + pw2 i + pw2 i
set_option maxRecDepth 1000000 in
theorem ex_21 : ∀ n, n < 10 → rcx 30 110 [.ref 1, .int 1, .int (nI n)] 83 62985 LBc (some (.long (0 + pw2 n))) = true ∧ rcx 30 110 [.ref 1, .float (mx_t 1 4 20), .int (nI n)] 83 62985 LBc (some (.long (0 + 0))) = true := by decide +kernel
