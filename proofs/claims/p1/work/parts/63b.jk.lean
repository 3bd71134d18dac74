section JK
variable {B : mx_B} {M : mx_M} {d pc nx tg : Nat} {ls : mx_L} {st rest : List Value} {h : mx_H} {Post : mx_R → Prop} {n s : Nat} {V : Nat → mx_C}
theorem mx_cell_of {a : Nat} {c : mx_C} (ha : a < h.1) (e : mx_get 9 h.2.2 a = c) : mx_cell h a = some c := by
  unfold mx_cell
  rw [show Nat.blt a h.1 = true from Nat.ble_eq.mpr ha, e]
  rfl
theorem YH.cell {a : Nat} {q : Nat × List Value} (hY : YH n s V h) (ha : Nat.blt a n = true) (hV : V a = .inl q) : mx_cell h a = some (.inl q) := by
  obtain ⟨h1, h2, h3, h4⟩ := hY
  have ha := mx_blt ha
  have hp := h4 a ha
  rw [hV] at hp
  rcases hp with e | ⟨ty, m, t, t2, e1, e2, e3⟩
  · exact mx_cell_of (by rw [h1]; exact ha) e
  · cases e2
theorem YH.arr {a m : Nat} {ty : FieldType} {T : mx_A} (hY : YH n s V h) (ha : Nat.blt a n = true) (hV : V a = .inr (ty, m, T)) : ∃ T2, mx_cell h a = some (.inr (ty, m, T2)) ∧ ∀ j, j < m → mx_get 13 T2 j = mx_get 13 T j := by
  obtain ⟨h1, h2, h3, h4⟩ := hY
  have ha := mx_blt ha
  have hp := h4 a ha
  rw [hV] at hp
  rcases hp with e | ⟨ty', m', t, t2, e1, e2, e3⟩
  · exact ⟨T, mx_cell_of (by rw [h1]; exact ha) e, fun _ _ => rfl⟩
  · injection e2 with e2
    injection e2 with a1 a2
    injection a2 with a2 a3
    subst a1; subst a2; subst a3
    exact ⟨t, mx_cell_of (by rw [h1]; exact ha) e1, e3⟩
theorem YH.put {a : Nat} {c c2 : mx_C} (hY : YH n s V h) (ha : Nat.blt a n = true) (hc : mx_pe c c2) : YH n s (upV V a c2) (mx_put h a c) := by
  obtain ⟨h1, h2, h3, h4⟩ := hY
  have ha := mx_blt ha
  refine ⟨h1, h2, h3, fun k hk => ?_⟩
  show mx_pe (mx_get 9 (mx_set 9 h.2.2 a c) k) (bif Nat.beq k a then c2 else V k)
  rw [mx_get_set c 9 h.2.2 a k (by show a < 512; omega) (by show k < 512; omega)]
  by_cases hka : k = a
  · rw [if_pos hka, hka, Nat.beq_refl]; exact hc
  · rw [if_neg hka]
    have hb : Nat.beq k a = false := by
      cases hb : Nat.beq k a with
      | false => rfl
      | true => exact absurd (Nat.eq_of_beq_eq_true hb) hka
    rw [hb]; exact h4 k hk
theorem Jgetf {ci f a : Nat} {fs : List Value} {v : Value} (hY : YH n s V h) (hs : mx_Sn B M pc (mx_getf ci f nx)) (ha : Nat.blt a n = true) (hV : V a = .inl (ci, fs)) (e : mx_nth fs f = some v) (hj : mx_J B M d nx ls (v :: rest) h Post) : mx_J B M d pc ls (.ref a :: rest) h Post := by
  refine mx_J.step hs (fun k call => ?_) hj
  have hc := hY.cell ha hV
  unfold mx_getf
  simp only [hc, Nat.beq_refl, cond_true, e]
theorem Jputf {KC ci f a : Nat} {ty : FieldType} {fs : List Value} {v : Value} (hY : YH n s V h) (hs : mx_Sn B M pc (mx_putf KC ci f ty nx)) (ha : Nat.blt a n = true) (hk : Nat.blt a KC = false) (hV : V a = .inl (ci, fs)) (e : (Nat.blt f fs.length && mx_fit ty v) = true) (hj : ∀ h2, YH n s (upV V a (.inl (ci, mx_upd fs f v))) h2 → mx_J B M d nx ls rest h2 Post) : mx_J B M d pc ls (v :: .ref a :: rest) h Post := by
  refine mx_J.step hs (fun k call => ?_) (hj _ (hY.put ha mx_pe.rfl'))
  have hc := hY.cell ha hV
  unfold mx_putf
  simp only [hc, Nat.beq_refl, hk, cond_true, cond_false, e, Bool.true_and]
theorem Jiald {a m i : Nat} {j : Int32} {T : mx_A} {v : Value} (hY : YH n s V h) (hs : mx_Sn B M pc (mx_iald nx)) (ha : Nat.blt a n = true) (hV : V a = .inr (.int, m, T)) (ji : j.toNatClampNeg = i ∧ ¬ j < 0 ∧ i < m) (e : mx_get 13 T i = v) (hj : mx_J B M d nx ls (v :: rest) h Post) : mx_J B M d pc ls (.int j :: .ref a :: rest) h Post := by
  obtain ⟨T2, hc, hT⟩ := hY.arr ha hV
  obtain ⟨j1, j2, j3⟩ := ji
  refine mx_J.step hs (fun k call => ?_) hj
  have hb : Nat.blt i m = true := Nat.ble_eq.mpr j3
  unfold mx_iald
  simp only [hc, if_neg j2, j1, hb, cond_true, hT i j3, e]
theorem Jiast {KC a m i : Nat} {j x : Int32} {T : mx_A} (hY : YH n s V h) (hs : mx_Sn B M pc (mx_iast KC nx)) (ha : Nat.blt a n = true) (hk : Nat.blt a KC = false) (hV : V a = .inr (.int, m, T)) (ji : j.toNatClampNeg = i ∧ ¬ j < 0 ∧ i < m) (hm : m ≤ 8192) (hj : ∀ h2, YH n s (upV V a (.inr (.int, m, mx_set 13 T i (.int x)))) h2 → mx_J B M d nx ls rest h2 Post) : mx_J B M d pc ls (.int x :: .int j :: .ref a :: rest) h Post := by
  obtain ⟨T2, hc, hT⟩ := hY.arr ha hV
  obtain ⟨j1, j2, j3⟩ := ji
  refine mx_J.step (h2 := mx_put h a (.inr (.int, m, mx_set 13 T2 i (.int x)))) hs (fun k call => ?_) (hj _ (hY.put ha (Or.inr ⟨_, _, _, _, rfl, rfl, fun q hq => ?_⟩)))
  · have hb : Nat.blt i m = true := Nat.ble_eq.mpr j3
    unfold mx_iast
    simp only [hc, hk, if_neg j2, j1, hb, cond_true, cond_false]
  · rw [mx_get_set _ 13 _ _ _ (by show i < 8192; omega) (by show q < 8192; omega), mx_get_set _ 13 _ _ _ (by show i < 8192; omega) (by show q < 8192; omega), hT q hq]
theorem Jalen {a m : Nat} {T : mx_A} (hY : YH n s V h) (hs : mx_Sn B M pc (mx_alen nx)) (ha : Nat.blt a n = true) (hV : V a = .inr (.int, m, T)) (hj : mx_J B M d nx ls (.int (Int32.ofNat m) :: rest) h Post) : mx_J B M d pc ls (.ref a :: rest) h Post := by
  obtain ⟨T2, hc, hT⟩ := hY.arr ha hV
  refine mx_J.step hs (fun k call => ?_) hj
  unfold mx_alen
  simp only [hc]
theorem Jnew {ci m : Nat} {fs : List Value} (hY : YH n s V h) (hs : mx_Sn B M pc (mx_new ci m fs nx)) (hn : n < 512) (hj : ∀ h2, YH (n + 1) (s + m) (upV V n (.inl (ci, fs))) h2 → mx_J B M d nx ls (.ref n :: st) h2 Post) : mx_J B M d pc ls st h Post := by
  obtain ⟨h1, h2, h3, h4⟩ := hY
  have hY2 : YH (n + 1) (s + m) (upV V n (.inl (ci, fs))) (mx_push h m (.inl (ci, fs))) := by
    refine ⟨by show h.1 + 1 = _; rw [h1], by show h.2.1 + m = _; rw [h2], by omega, fun k hk => ?_⟩
    show mx_pe (mx_get 9 (mx_set 9 h.2.2 h.1 (.inl (ci, fs))) k) (bif Nat.beq k n then _ else V k)
    rw [h1, mx_get_set _ 9 h.2.2 n k (by show n < 512; omega) (by show k < 512; omega)]
    by_cases hka : k = n
    · rw [if_pos hka, hka, Nat.beq_refl]; exact Or.inl rfl
    · rw [if_neg hka]
      have hb : Nat.beq k n = false := by
        cases hb : Nat.beq k n with
        | false => rfl
        | true => exact absurd (Nat.eq_of_beq_eq_true hb) hka
      rw [hb]; exact h4 k (by omega)
  refine mx_J.step hs (fun k call => ?_) (hj _ hY2)
  have hb : Nat.blt h.1 512 = true := Nat.ble_eq.mpr (by rw [h1]; exact hn)
  unfold mx_new
  rw [hb, cond_true, h1]
theorem Jcallv {mi nt ci b : Nat} {as fs : List Value} {v : Value} {h2 : mx_H} (hY : YH n s V h) (hs : mx_Sn B M pc (mx_callv mi nt ci nx)) (hb : Nat.blt b n = true) (hV : V b = .inl (ci, fs)) (hca : mx_Ca B d mi (.ref b :: as) h (some v, h2)) (hst : (st.take nt).reverse = .ref b :: as) (hl : (Nat.beq as.length (nt - 1) && Nat.ble (mx_cat (st.drop nt)) 8) = true) (hj : mx_J B M d nx ls (v :: st.drop nt) h2 Post) : mx_J B M d pc ls st h Post := by
  have hc := hY.cell hb hV
  refine mx_J.call (r1 := (some v, h2)) hs (fun k call e => ?_) hca hj
  unfold mx_callv
  simp only [hst, hc, Nat.beq_refl, Bool.true_and, hl, cond_true, e]
  rfl
theorem Jcallv0 {mi nt ci b : Nat} {as fs : List Value} {h2 : mx_H} (hY : YH n s V h) (hs : mx_Sn B M pc (mx_callv mi nt ci nx)) (hb : Nat.blt b n = true) (hV : V b = .inl (ci, fs)) (hca : mx_Ca B d mi (.ref b :: as) h (none, h2)) (hst : (st.take nt).reverse = .ref b :: as) (hl : (Nat.beq as.length (nt - 1) && Nat.ble (mx_cat (st.drop nt)) 8) = true) (hj : mx_J B M d nx ls (st.drop nt) h2 Post) : mx_J B M d pc ls st h Post := by
  have hc := hY.cell hb hV
  refine mx_J.call (r1 := (none, h2)) hs (fun k call e => ?_) hca hj
  unfold mx_callv
  simp only [hst, hc, Nat.beq_refl, Bool.true_and, hl, cond_true, e]
  rfl
theorem Jcalls {mi nt : Nat} {as : List Value} {v : Value} {h2 : mx_H} (hs : mx_Sn B M pc (mx_calls mi nt nx)) (hca : mx_Ca B d mi as h (some v, h2)) (hst : (st.take nt).reverse = as) (hl : (Nat.beq (st.take nt).length nt && Nat.ble (mx_cat (st.drop nt)) 8) = true) (hj : mx_J B M d nx ls (v :: st.drop nt) h2 Post) : mx_J B M d pc ls st h Post := by
  refine mx_J.call (r1 := (some v, h2)) hs (fun k call e => ?_) hca hj
  unfold mx_calls
  simp only [hst, hl, cond_true, e]
  rfl
theorem Jcalls0 {mi nt : Nat} {as : List Value} {h2 : mx_H} (hs : mx_Sn B M pc (mx_calls mi nt nx)) (hca : mx_Ca B d mi as h (none, h2)) (hst : (st.take nt).reverse = as) (hl : (Nat.beq (st.take nt).length nt && Nat.ble (mx_cat (st.drop nt)) 8) = true) (hj : mx_J B M d nx ls (st.drop nt) h2 Post) : mx_J B M d pc ls st h Post := by
  refine mx_J.call (r1 := (none, h2)) hs (fun k call e => ?_) hca hj
  unfold mx_calls
  simp only [hst, hl, cond_true, e]
  rfl
theorem Jcalli {mi nt b : Nat} {as : List Value} {h2 : mx_H} (hs : mx_Sn B M pc (mx_calli mi nt nx)) (hca : mx_Ca B d mi (.ref b :: as) h (none, h2)) (hst : (st.take nt).reverse = .ref b :: as) (hl : (Nat.beq as.length (nt - 1) && Nat.ble (mx_cat (st.drop nt)) 8) = true) (hj : mx_J B M d nx ls (st.drop nt) h2 Post) : mx_J B M d pc ls st h Post := by
  refine mx_J.call (r1 := (none, h2)) hs (fun k call e => ?_) hca hj
  unfold mx_calli
  simp only [hst, hl, cond_true, e]
  rfl
theorem Jobj {b : Nat} (hs : mx_Sn B M pc (mx_objinit nx)) (hd : ∃ d2, d = d2 + 1) (hl : Nat.ble (mx_cat rest) 8 = true) (hj : mx_J B M d nx ls rest h Post) : mx_J B M d pc ls (.ref b :: rest) h Post := by
  obtain ⟨d2, hd⟩ := hd
  refine mx_J.call (mi := 0) (as := []) (r1 := (none, h)) hs (fun k call e => ?_) ⟨d2, hd, ⟨Nat.le_refl _, Nat.le_refl _⟩, fun z => absurd rfl z⟩ hj
  unfold mx_objinit
  simp only [hl, cond_true, e]
theorem Jif_eq_t {x : Int32} (hs : mx_Sn B M pc (mx_if_eq tg nx)) (hc : (x = 0)) (hj : mx_J B M d tg ls rest h Post) : mx_J B M d pc ls (.int x :: rest) h Post := mx_J.step hs (fun k call => (show (if x = 0 then k tg ls rest h else k nx ls rest h) = _ from if_pos hc)) hj
theorem Jicmp_eq_t {x y : Int32} (hs : mx_Sn B M pc (mx_icmp_eq tg nx)) (hc : (x = y)) (hj : mx_J B M d tg ls rest h Post) : mx_J B M d pc ls (.int y :: .int x :: rest) h Post := mx_J.step hs (fun k call => (show (if x = y then k tg ls rest h else k nx ls rest h) = _ from if_pos hc)) hj
theorem Jlif_eq_t {x y : Int64} (hs : mx_Sn B M pc (mx_lif_eq tg nx)) (hc : (lg_cmp x y = 0)) (hj : mx_J B M d tg ls rest h Post) : mx_J B M d pc ls (.long y :: .long x :: rest) h Post := mx_J.step hs (fun k call => (show (if lg_cmp x y = 0 then k tg ls rest h else k nx ls rest h) = _ from if_pos hc)) hj
theorem Jif_eq_f {x : Int32} (hs : mx_Sn B M pc (mx_if_eq tg nx)) (hc : ¬ (x = 0)) (hj : mx_J B M d nx ls rest h Post) : mx_J B M d pc ls (.int x :: rest) h Post := mx_J.step hs (fun k call => (show (if x = 0 then k tg ls rest h else k nx ls rest h) = _ from if_neg hc)) hj
theorem Jicmp_eq_f {x y : Int32} (hs : mx_Sn B M pc (mx_icmp_eq tg nx)) (hc : ¬ (x = y)) (hj : mx_J B M d nx ls rest h Post) : mx_J B M d pc ls (.int y :: .int x :: rest) h Post := mx_J.step hs (fun k call => (show (if x = y then k tg ls rest h else k nx ls rest h) = _ from if_neg hc)) hj
theorem Jlif_eq_f {x y : Int64} (hs : mx_Sn B M pc (mx_lif_eq tg nx)) (hc : ¬ (lg_cmp x y = 0)) (hj : mx_J B M d nx ls rest h Post) : mx_J B M d pc ls (.long y :: .long x :: rest) h Post := mx_J.step hs (fun k call => (show (if lg_cmp x y = 0 then k tg ls rest h else k nx ls rest h) = _ from if_neg hc)) hj
theorem Jif_ne_t {x : Int32} (hs : mx_Sn B M pc (mx_if_ne tg nx)) (hc : (¬ x = 0)) (hj : mx_J B M d tg ls rest h Post) : mx_J B M d pc ls (.int x :: rest) h Post := mx_J.step hs (fun k call => (show (if ¬ x = 0 then k tg ls rest h else k nx ls rest h) = _ from if_pos hc)) hj
theorem Jicmp_ne_t {x y : Int32} (hs : mx_Sn B M pc (mx_icmp_ne tg nx)) (hc : (¬ x = y)) (hj : mx_J B M d tg ls rest h Post) : mx_J B M d pc ls (.int y :: .int x :: rest) h Post := mx_J.step hs (fun k call => (show (if ¬ x = y then k tg ls rest h else k nx ls rest h) = _ from if_pos hc)) hj
theorem Jlif_ne_t {x y : Int64} (hs : mx_Sn B M pc (mx_lif_ne tg nx)) (hc : (¬ lg_cmp x y = 0)) (hj : mx_J B M d tg ls rest h Post) : mx_J B M d pc ls (.long y :: .long x :: rest) h Post := mx_J.step hs (fun k call => (show (if ¬ lg_cmp x y = 0 then k tg ls rest h else k nx ls rest h) = _ from if_pos hc)) hj
theorem Jif_ne_f {x : Int32} (hs : mx_Sn B M pc (mx_if_ne tg nx)) (hc : ¬ (¬ x = 0)) (hj : mx_J B M d nx ls rest h Post) : mx_J B M d pc ls (.int x :: rest) h Post := mx_J.step hs (fun k call => (show (if ¬ x = 0 then k tg ls rest h else k nx ls rest h) = _ from if_neg hc)) hj
theorem Jicmp_ne_f {x y : Int32} (hs : mx_Sn B M pc (mx_icmp_ne tg nx)) (hc : ¬ (¬ x = y)) (hj : mx_J B M d nx ls rest h Post) : mx_J B M d pc ls (.int y :: .int x :: rest) h Post := mx_J.step hs (fun k call => (show (if ¬ x = y then k tg ls rest h else k nx ls rest h) = _ from if_neg hc)) hj
theorem Jlif_ne_f {x y : Int64} (hs : mx_Sn B M pc (mx_lif_ne tg nx)) (hc : ¬ (¬ lg_cmp x y = 0)) (hj : mx_J B M d nx ls rest h Post) : mx_J B M d pc ls (.long y :: .long x :: rest) h Post := mx_J.step hs (fun k call => (show (if ¬ lg_cmp x y = 0 then k tg ls rest h else k nx ls rest h) = _ from if_neg hc)) hj
theorem Jif_lt_t {x : Int32} (hs : mx_Sn B M pc (mx_if_lt tg nx)) (hc : (x < 0)) (hj : mx_J B M d tg ls rest h Post) : mx_J B M d pc ls (.int x :: rest) h Post := mx_J.step hs (fun k call => (show (if x < 0 then k tg ls rest h else k nx ls rest h) = _ from if_pos hc)) hj
theorem Jicmp_lt_t {x y : Int32} (hs : mx_Sn B M pc (mx_icmp_lt tg nx)) (hc : (x < y)) (hj : mx_J B M d tg ls rest h Post) : mx_J B M d pc ls (.int y :: .int x :: rest) h Post := mx_J.step hs (fun k call => (show (if x < y then k tg ls rest h else k nx ls rest h) = _ from if_pos hc)) hj
theorem Jlif_lt_t {x y : Int64} (hs : mx_Sn B M pc (mx_lif_lt tg nx)) (hc : (lg_cmp x y < 0)) (hj : mx_J B M d tg ls rest h Post) : mx_J B M d pc ls (.long y :: .long x :: rest) h Post := mx_J.step hs (fun k call => (show (if lg_cmp x y < 0 then k tg ls rest h else k nx ls rest h) = _ from if_pos hc)) hj
theorem Jif_lt_f {x : Int32} (hs : mx_Sn B M pc (mx_if_lt tg nx)) (hc : ¬ (x < 0)) (hj : mx_J B M d nx ls rest h Post) : mx_J B M d pc ls (.int x :: rest) h Post := mx_J.step hs (fun k call => (show (if x < 0 then k tg ls rest h else k nx ls rest h) = _ from if_neg hc)) hj
theorem Jicmp_lt_f {x y : Int32} (hs : mx_Sn B M pc (mx_icmp_lt tg nx)) (hc : ¬ (x < y)) (hj : mx_J B M d nx ls rest h Post) : mx_J B M d pc ls (.int y :: .int x :: rest) h Post := mx_J.step hs (fun k call => (show (if x < y then k tg ls rest h else k nx ls rest h) = _ from if_neg hc)) hj
theorem Jlif_lt_f {x y : Int64} (hs : mx_Sn B M pc (mx_lif_lt tg nx)) (hc : ¬ (lg_cmp x y < 0)) (hj : mx_J B M d nx ls rest h Post) : mx_J B M d pc ls (.long y :: .long x :: rest) h Post := mx_J.step hs (fun k call => (show (if lg_cmp x y < 0 then k tg ls rest h else k nx ls rest h) = _ from if_neg hc)) hj
theorem Jif_ge_t {x : Int32} (hs : mx_Sn B M pc (mx_if_ge tg nx)) (hc : (0 ≤ x)) (hj : mx_J B M d tg ls rest h Post) : mx_J B M d pc ls (.int x :: rest) h Post := mx_J.step hs (fun k call => (show (if 0 ≤ x then k tg ls rest h else k nx ls rest h) = _ from if_pos hc)) hj
theorem Jicmp_ge_t {x y : Int32} (hs : mx_Sn B M pc (mx_icmp_ge tg nx)) (hc : (y ≤ x)) (hj : mx_J B M d tg ls rest h Post) : mx_J B M d pc ls (.int y :: .int x :: rest) h Post := mx_J.step hs (fun k call => (show (if y ≤ x then k tg ls rest h else k nx ls rest h) = _ from if_pos hc)) hj
theorem Jlif_ge_t {x y : Int64} (hs : mx_Sn B M pc (mx_lif_ge tg nx)) (hc : (0 ≤ lg_cmp x y)) (hj : mx_J B M d tg ls rest h Post) : mx_J B M d pc ls (.long y :: .long x :: rest) h Post := mx_J.step hs (fun k call => (show (if 0 ≤ lg_cmp x y then k tg ls rest h else k nx ls rest h) = _ from if_pos hc)) hj
theorem Jif_ge_f {x : Int32} (hs : mx_Sn B M pc (mx_if_ge tg nx)) (hc : ¬ (0 ≤ x)) (hj : mx_J B M d nx ls rest h Post) : mx_J B M d pc ls (.int x :: rest) h Post := mx_J.step hs (fun k call => (show (if 0 ≤ x then k tg ls rest h else k nx ls rest h) = _ from if_neg hc)) hj
theorem Jicmp_ge_f {x y : Int32} (hs : mx_Sn B M pc (mx_icmp_ge tg nx)) (hc : ¬ (y ≤ x)) (hj : mx_J B M d nx ls rest h Post) : mx_J B M d pc ls (.int y :: .int x :: rest) h Post := mx_J.step hs (fun k call => (show (if y ≤ x then k tg ls rest h else k nx ls rest h) = _ from if_neg hc)) hj
theorem Jlif_ge_f {x y : Int64} (hs : mx_Sn B M pc (mx_lif_ge tg nx)) (hc : ¬ (0 ≤ lg_cmp x y)) (hj : mx_J B M d nx ls rest h Post) : mx_J B M d pc ls (.long y :: .long x :: rest) h Post := mx_J.step hs (fun k call => (show (if 0 ≤ lg_cmp x y then k tg ls rest h else k nx ls rest h) = _ from if_neg hc)) hj
theorem Jif_gt_t {x : Int32} (hs : mx_Sn B M pc (mx_if_gt tg nx)) (hc : (0 < x)) (hj : mx_J B M d tg ls rest h Post) : mx_J B M d pc ls (.int x :: rest) h Post := mx_J.step hs (fun k call => (show (if 0 < x then k tg ls rest h else k nx ls rest h) = _ from if_pos hc)) hj
theorem Jicmp_gt_t {x y : Int32} (hs : mx_Sn B M pc (mx_icmp_gt tg nx)) (hc : (y < x)) (hj : mx_J B M d tg ls rest h Post) : mx_J B M d pc ls (.int y :: .int x :: rest) h Post := mx_J.step hs (fun k call => (show (if y < x then k tg ls rest h else k nx ls rest h) = _ from if_pos hc)) hj
theorem Jlif_gt_t {x y : Int64} (hs : mx_Sn B M pc (mx_lif_gt tg nx)) (hc : (0 < lg_cmp x y)) (hj : mx_J B M d tg ls rest h Post) : mx_J B M d pc ls (.long y :: .long x :: rest) h Post := mx_J.step hs (fun k call => (show (if 0 < lg_cmp x y then k tg ls rest h else k nx ls rest h) = _ from if_pos hc)) hj
theorem Jif_gt_f {x : Int32} (hs : mx_Sn B M pc (mx_if_gt tg nx)) (hc : ¬ (0 < x)) (hj : mx_J B M d nx ls rest h Post) : mx_J B M d pc ls (.int x :: rest) h Post := mx_J.step hs (fun k call => (show (if 0 < x then k tg ls rest h else k nx ls rest h) = _ from if_neg hc)) hj
theorem Jicmp_gt_f {x y : Int32} (hs : mx_Sn B M pc (mx_icmp_gt tg nx)) (hc : ¬ (y < x)) (hj : mx_J B M d nx ls rest h Post) : mx_J B M d pc ls (.int y :: .int x :: rest) h Post := mx_J.step hs (fun k call => (show (if y < x then k tg ls rest h else k nx ls rest h) = _ from if_neg hc)) hj
theorem Jlif_gt_f {x y : Int64} (hs : mx_Sn B M pc (mx_lif_gt tg nx)) (hc : ¬ (0 < lg_cmp x y)) (hj : mx_J B M d nx ls rest h Post) : mx_J B M d pc ls (.long y :: .long x :: rest) h Post := mx_J.step hs (fun k call => (show (if 0 < lg_cmp x y then k tg ls rest h else k nx ls rest h) = _ from if_neg hc)) hj
theorem Jif_le_t {x : Int32} (hs : mx_Sn B M pc (mx_if_le tg nx)) (hc : (x ≤ 0)) (hj : mx_J B M d tg ls rest h Post) : mx_J B M d pc ls (.int x :: rest) h Post := mx_J.step hs (fun k call => (show (if x ≤ 0 then k tg ls rest h else k nx ls rest h) = _ from if_pos hc)) hj
theorem Jicmp_le_t {x y : Int32} (hs : mx_Sn B M pc (mx_icmp_le tg nx)) (hc : (x ≤ y)) (hj : mx_J B M d tg ls rest h Post) : mx_J B M d pc ls (.int y :: .int x :: rest) h Post := mx_J.step hs (fun k call => (show (if x ≤ y then k tg ls rest h else k nx ls rest h) = _ from if_pos hc)) hj
theorem Jlif_le_t {x y : Int64} (hs : mx_Sn B M pc (mx_lif_le tg nx)) (hc : (lg_cmp x y ≤ 0)) (hj : mx_J B M d tg ls rest h Post) : mx_J B M d pc ls (.long y :: .long x :: rest) h Post := mx_J.step hs (fun k call => (show (if lg_cmp x y ≤ 0 then k tg ls rest h else k nx ls rest h) = _ from if_pos hc)) hj
theorem Jif_le_f {x : Int32} (hs : mx_Sn B M pc (mx_if_le tg nx)) (hc : ¬ (x ≤ 0)) (hj : mx_J B M d nx ls rest h Post) : mx_J B M d pc ls (.int x :: rest) h Post := mx_J.step hs (fun k call => (show (if x ≤ 0 then k tg ls rest h else k nx ls rest h) = _ from if_neg hc)) hj
theorem Jicmp_le_f {x y : Int32} (hs : mx_Sn B M pc (mx_icmp_le tg nx)) (hc : ¬ (x ≤ y)) (hj : mx_J B M d nx ls rest h Post) : mx_J B M d pc ls (.int y :: .int x :: rest) h Post := mx_J.step hs (fun k call => (show (if x ≤ y then k tg ls rest h else k nx ls rest h) = _ from if_neg hc)) hj
theorem Jlif_le_f {x y : Int64} (hs : mx_Sn B M pc (mx_lif_le tg nx)) (hc : ¬ (lg_cmp x y ≤ 0)) (hj : mx_J B M d nx ls rest h Post) : mx_J B M d pc ls (.long y :: .long x :: rest) h Post := mx_J.step hs (fun k call => (show (if lg_cmp x y ≤ 0 then k tg ls rest h else k nx ls rest h) = _ from if_neg hc)) hj
theorem Jirem {x y : Int32} (hs : mx_Sn B M pc (mx_irem nx)) (hy : ¬ y = 0) (hj : mx_J B M d nx ls (.int (x - x / y * y) :: rest) h Post) : mx_J B M d pc ls (.int y :: .int x :: rest) h Post := mx_J.step hs (fun k call => (show (if y = 0 then none else k nx ls (.int (x - x / y * y) :: rest) h) = _ from if_neg hy)) hj
end JK
