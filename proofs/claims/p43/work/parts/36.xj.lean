/-! rows over heaps whose cells hold numbers (35): an instruction, a row; numbers are Int, values their xI, xL -/
section XJ
variable {B : mx_B} {M : mx_M} {d pc nx tg : Nat} {ls ls2 : mx_L} {st rest : List Value} {h : mx_H} {Post : mx_R → Prop} {n s : Nat} {S : Nat → xS} {Z : xZ}
abbrev iI (z : Int) : Prop := -2147483648 ≤ z ∧ z ≤ 2147483647
abbrev iL (z : Int) : Prop := -9223372036854775808 ≤ z ∧ z ≤ 9223372036854775807
theorem ti_I {z : Int} (h : iI z) : (Int32.ofInt z).toInt = z := Int32.toInt_ofInt_of_le (by omega) (by omega)
theorem ti_L {z : Int} (h : iL z) : (Int64.ofInt z).toInt = z := Int64.toInt_ofInt_of_le (by omega) (by omega)
theorem eq_I {a b : Int} (ha : iI a) (hb : iI b) : Int32.ofInt a = Int32.ofInt b ↔ a = b := by rw [← Int32.toInt_inj, ti_I ha, ti_I hb]
theorem lt_I {a b : Int} (ha : iI a) (hb : iI b) : Int32.ofInt a < Int32.ofInt b ↔ a < b := by rw [Int32.lt_iff_toInt_lt, ti_I ha, ti_I hb]
theorem le_I {a b : Int} (ha : iI a) (hb : iI b) : Int32.ofInt a ≤ Int32.ofInt b ↔ a ≤ b := by rw [Int32.le_iff_toInt_le, ti_I ha, ti_I hb]
theorem eq_L {a b : Int} (ha : iL a) (hb : iL b) : Int64.ofInt a = Int64.ofInt b ↔ a = b := by rw [← Int64.toInt_inj, ti_L ha, ti_L hb]
theorem lt_L {a b : Int} (ha : iL a) (hb : iL b) : Int64.ofInt a < Int64.ofInt b ↔ a < b := by rw [Int64.lt_iff_toInt_lt, ti_L ha, ti_L hb]
theorem le_L {a b : Int} (ha : iL a) (hb : iL b) : Int64.ofInt a ≤ Int64.ofInt b ↔ a ≤ b := by rw [Int64.le_iff_toInt_le, ti_L ha, ti_L hb]
theorem z_I : (0 : Int32) = Int32.ofInt 0 := rfl
theorem rg_I (x : Int32) : ∃ z, iI z ∧ x = Int32.ofInt z := ⟨x.toInt, ⟨x.le_toInt, by have := x.toInt_lt; omega⟩, (Int32.ofInt_toInt x).symm⟩
theorem rg_L (x : Int64) : ∃ z, iL z ∧ x = Int64.ofInt z := ⟨x.toInt, ⟨x.le_toInt, by have := x.toInt_lt; omega⟩, (Int64.ofInt_toInt x).symm⟩
theorem cl_I {i : Int} {len : Nat} (h0 : 0 ≤ i ∧ i < (len : Int)) (hl : len ≤ 8192) : (Int32.ofInt i).toNatClampNeg = i.toNat ∧ ¬ Int32.ofInt i < 0 ∧ Nat.blt i.toNat len = true ∧ ((i.toNat : Nat) : Int) = i := by
  have hi : iI i := by omega
  refine ⟨?_, ?_, Nat.ble_eq.mpr (by show i.toNat + 1 ≤ len; omega), by omega⟩
  · rw [← Int32.toNat_toInt, ti_I hi]
  · rw [z_I, lt_I hi (by decide)]; omega
theorem lt83 {a : Nat} (hn : 83 ≤ n) (h : Nat.blt a 83 = true) : a < n := Nat.lt_of_lt_of_le (Nat.ble_eq.mp h) hn
theorem mx_cell_of2 {a : Nat} {c : mx_C} (ha : a < h.1) (e : mx_get 12 h.2.2 a = c) : mx_cell h a = some c := by
  unfold mx_cell
  rw [show Nat.blt a h.1 = true from Nat.ble_eq.mpr ha, e]
  rfl
theorem XH.obj {a ci : Nat} {ks : List Nat} (hx : XH n s S Z h) (ha : a < n) (hS : S a = .inl (ci, ks)) : mx_cell h a = some (.inl (ci, fl ks (Z a) 0)) := by
  obtain ⟨h1, h2, h3, h4⟩ := hx
  have hp := h4 a ha
  rw [hS] at hp
  exact mx_cell_of2 (by rw [h1]; exact ha) hp
theorem XH.arr {a len t : Nat} {ty : FieldType} (hx : XH n s S Z h) (ha : a < n) (hS : S a = .inr (ty, len, t)) : ∃ T, mx_cell h a = some (.inr (ty, len, T)) ∧ len ≤ 8192 ∧ ∀ j : Nat, j < len → mx_get 13 T j = vl t (Z a (j : Int)) := by
  obtain ⟨h1, h2, h3, h4⟩ := hx
  have hp := h4 a ha
  rw [hS] at hp
  obtain ⟨T, e1, e2, e3⟩ := hp
  exact ⟨T, mx_cell_of2 (by rw [h1]; exact ha) e1, e2, e3⟩
theorem XH.put {a : Nat} {c : mx_C} {Z2 : xZ} (hx : XH n s S Z h) (ha : a < n) (hc : cR (S a) (Z2 a) c) (hz : ∀ k, k ≠ a → Z2 k = Z k) : XH n s S Z2 (mx_put h a c) := by
  obtain ⟨h1, h2, h3, h4⟩ := hx
  refine ⟨h1, h2, h3, fun k hk => ?_⟩
  show cR (S k) (Z2 k) (mx_get 12 (mx_set 12 h.2.2 a c) k)
  rw [mx_get_set c 12 h.2.2 a k (by show a < 4096; omega) (by show k < 4096; omega)]
  by_cases hka : k = a
  · rw [if_pos hka, hka]; exact hc
  · rw [if_neg hka, hz k hka]; exact h4 k hk
theorem up_other {a k : Nat} {g z : Int} (hk : k ≠ a) : up Z a g z k = Z k := funext fun i => if_neg (fun q => hk q.1)
theorem XH.putf {a ci f t : Nat} {ks : List Nat} {g z : Int} (hx : XH n s S Z h) (ha : a < n) (hS : S a = .inl (ci, ks)) (ht : mx_nth ks f = some t) (hg : g = ((f : Nat) : Int)) : XH n s S (up Z a g z) (mx_put h a (.inl (ci, mx_upd (fl ks (Z a) 0) f (vl t z)))) := by
  refine hx.put ha ?_ (fun k hk => up_other hk)
  rw [hS]
  show (Sum.inl (ci, mx_upd (fl ks (Z a) 0) f (vl t z)) : mx_C) = .inl (ci, fl ks (up Z a g z a) 0)
  rw [fl_upd (f2 := up Z a g z a) ht (by rw [Nat.zero_add, ← hg]; exact if_pos ⟨rfl, rfl⟩) (fun q hq => if_neg (fun e => hq (by have := e.2; omega)))]
theorem XH.puta {a len t : Nat} {ty : FieldType} {T : mx_A} {i z : Int} (hx : XH n s S Z h) (ha : a < n) (hS : S a = .inr (ty, len, t)) (hl : len ≤ 8192) (hT : ∀ j : Nat, j < len → mx_get 13 T j = vl t (Z a (j : Int))) (h0 : 0 ≤ i ∧ i < (len : Int)) : XH n s S (up Z a i z) (mx_put h a (.inr (ty, len, mx_set 13 T i.toNat (vl t z)))) := by
  refine hx.put ha ?_ (fun k hk => up_other hk)
  rw [hS]
  refine ⟨_, rfl, hl, fun j hj => ?_⟩
  rw [mx_get_set _ 13 _ _ _ (by show i.toNat < 8192; omega) (by show j < 8192; omega)]
  by_cases hji : j = i.toNat
  · rw [if_pos hji]
    show vl t z = vl t (if a = a ∧ (j : Int) = i then z else Z a j)
    rw [if_pos ⟨rfl, by omega⟩]
  · rw [if_neg hji, hT j hj]
    show _ = vl t (if a = a ∧ (j : Int) = i then z else Z a j)
    rw [if_neg (fun q => hji (by have := q.2; omega))]

theorem JgetI {a ci f : Nat} {ks : List Nat} {g z : Int} (hx : XH n s S Z h) (hs : mx_Sn B M pc (mx_getf ci f nx)) (ha : a < n) (hS : S a = .inl (ci, ks)) (ht : mx_nth ks f = some 0) (hg : g = ((f : Nat) : Int)) (hz : Z a g = z) (hj : mx_J B M d nx ls (xI z :: rest) h Post) : mx_J B M d pc ls (.ref a :: rest) h Post := by
  refine mx_J.step hs (fun k call => ?_) hj
  have hc := hx.obj ha hS
  have e := fl_nth (f := Z a) (i := 0) ht
  rw [Nat.zero_add, ← hg, hz] at e
  unfold mx_getf
  simp only [hc, Nat.beq_refl, cond_true, e]
  rfl
theorem JgetL {a ci f : Nat} {ks : List Nat} {g z : Int} (hx : XH n s S Z h) (hs : mx_Sn B M pc (mx_getf ci f nx)) (ha : a < n) (hS : S a = .inl (ci, ks)) (ht : mx_nth ks f = some 1) (hg : g = ((f : Nat) : Int)) (hz : Z a g = z) (hj : mx_J B M d nx ls (xL z :: rest) h Post) : mx_J B M d pc ls (.ref a :: rest) h Post := by
  refine mx_J.step hs (fun k call => ?_) hj
  have hc := hx.obj ha hS
  have e := fl_nth (f := Z a) (i := 0) ht
  rw [Nat.zero_add, ← hg, hz] at e
  unfold mx_getf
  simp only [hc, Nat.beq_refl, cond_true, e]
  rfl
theorem JgetR {a ci f b : Nat} {ks : List Nat} {g : Int} (hx : XH n s S Z h) (hs : mx_Sn B M pc (mx_getf ci f nx)) (ha : a < n) (hS : S a = .inl (ci, ks)) (ht : mx_nth ks f = some 2) (hg : g = ((f : Nat) : Int)) (hz : Z a g = ((b : Nat) : Int)) (hj : mx_J B M d nx ls (.ref b :: rest) h Post) : mx_J B M d pc ls (.ref a :: rest) h Post := by
  refine mx_J.step hs (fun k call => ?_) hj
  have hc := hx.obj ha hS
  have e := fl_nth (f := Z a) (i := 0) ht
  rw [Nat.zero_add, ← hg, hz] at e
  unfold mx_getf
  simp only [hc, Nat.beq_refl, cond_true, e]
  rfl
theorem JputI {KC a ci f : Nat} {ty : FieldType} {ks : List Nat} {g z : Int} (hx : XH n s S Z h) (hs : mx_Sn B M pc (mx_putf KC ci f ty nx)) (ha : a < n) (hS : S a = .inl (ci, ks)) (hk : Nat.blt a KC = false) (ht : mx_nth ks f = some 0) (hf : mx_fit ty (xI z) = true) (hg : g = ((f : Nat) : Int)) (hj : ∀ Z2 h2, XH n s S Z2 h2 → Z2 = up Z a g z → mx_J B M d nx ls rest h2 Post) : mx_J B M d pc ls (xI z :: .ref a :: rest) h Post := by
  have hc := hx.obj ha hS
  have hl : Nat.blt f ks.length = true := by
    rw [mx_nth_eq] at ht
    exact Nat.ble_eq.mpr ((List.getElem?_eq_some_iff.mp ht).1)
  refine mx_J.step hs (fun k call => ?_) (hj _ _ (hx.putf ha hS ht hg (z := z)) rfl)
  unfold mx_putf
  simp only [hc, Nat.beq_refl, hk, cond_true, cond_false, fl_len, hl, hf, Bool.true_and]
  rfl
theorem JputL {KC a ci f : Nat} {ty : FieldType} {ks : List Nat} {g z : Int} (hx : XH n s S Z h) (hs : mx_Sn B M pc (mx_putf KC ci f ty nx)) (ha : a < n) (hS : S a = .inl (ci, ks)) (hk : Nat.blt a KC = false) (ht : mx_nth ks f = some 1) (hf : mx_fit ty (xL z) = true) (hg : g = ((f : Nat) : Int)) (hj : ∀ Z2 h2, XH n s S Z2 h2 → Z2 = up Z a g z → mx_J B M d nx ls rest h2 Post) : mx_J B M d pc ls (xL z :: .ref a :: rest) h Post := by
  have hc := hx.obj ha hS
  have hl : Nat.blt f ks.length = true := by
    rw [mx_nth_eq] at ht
    exact Nat.ble_eq.mpr ((List.getElem?_eq_some_iff.mp ht).1)
  refine mx_J.step hs (fun k call => ?_) (hj _ _ (hx.putf ha hS ht hg (z := z)) rfl)
  unfold mx_putf
  simp only [hc, Nat.beq_refl, hk, cond_true, cond_false, fl_len, hl, hf, Bool.true_and]
  rfl
theorem JputR {KC a ci f : Nat} {b : Nat} {ty : FieldType} {ks : List Nat} {g : Int} (hx : XH n s S Z h) (hs : mx_Sn B M pc (mx_putf KC ci f ty nx)) (ha : a < n) (hS : S a = .inl (ci, ks)) (hk : Nat.blt a KC = false) (ht : mx_nth ks f = some 2) (hf : mx_fit ty (.ref b) = true) (hg : g = ((f : Nat) : Int)) (hj : ∀ Z2 h2, XH n s S Z2 h2 → Z2 = up Z a g ((b : Nat) : Int) → mx_J B M d nx ls rest h2 Post) : mx_J B M d pc ls (.ref b :: .ref a :: rest) h Post := by
  have hc := hx.obj ha hS
  have hl : Nat.blt f ks.length = true := by
    rw [mx_nth_eq] at ht
    exact Nat.ble_eq.mpr ((List.getElem?_eq_some_iff.mp ht).1)
  refine mx_J.step hs (fun k call => ?_) (hj _ _ (hx.putf ha hS ht hg (z := ((b : Nat) : Int))) rfl)
  unfold mx_putf
  simp only [hc, Nat.beq_refl, hk, cond_true, cond_false, fl_len, hl, hf, Bool.true_and]
  rfl
theorem JialdI {a len : Nat} {i z : Int} (hx : XH n s S Z h) (hs : mx_Sn B M pc (mx_iald nx)) (ha : a < n) (hS : S a = .inr (.int, len, 0)) (h0 : 0 ≤ i ∧ i < (len : Int)) (hz : Z a i = z) (hj : mx_J B M d nx ls (xI z :: rest) h Post) : mx_J B M d pc ls (xI i :: .ref a :: rest) h Post := by
  obtain ⟨T, hc, hl, hT⟩ := hx.arr ha hS
  obtain ⟨c1, c2, c3, c4⟩ := cl_I h0 hl
  have e := hT i.toNat (Nat.ble_eq.mp c3)
  rw [c4, hz] at e
  refine mx_J.step hs (fun k call => ?_) hj
  unfold mx_iald
  simp only [hc, if_neg c2, c1, c3, cond_true, e]
  rfl
theorem JbaldI {a len : Nat} {i z : Int} (hx : XH n s S Z h) (hs : mx_Sn B M pc (mx_bald nx)) (ha : a < n) (hS : S a = .inr (.byte, len, 0)) (h0 : 0 ≤ i ∧ i < (len : Int)) (hz : Z a i = z) (hj : mx_J B M d nx ls (xI z :: rest) h Post) : mx_J B M d pc ls (xI i :: .ref a :: rest) h Post := by
  obtain ⟨T, hc, hl, hT⟩ := hx.arr ha hS
  obtain ⟨c1, c2, c3, c4⟩ := cl_I h0 hl
  have e := hT i.toNat (Nat.ble_eq.mp c3)
  rw [c4, hz] at e
  refine mx_J.step hs (fun k call => ?_) hj
  unfold mx_bald
  simp only [hc, if_neg c2, c1, c3, cond_true, e]
  rfl
theorem JzaldI {a len : Nat} {i z : Int} (hx : XH n s S Z h) (hs : mx_Sn B M pc (mx_zald nx)) (ha : a < n) (hS : S a = .inr (.boolean, len, 0)) (h0 : 0 ≤ i ∧ i < (len : Int)) (hz : Z a i = z) (hj : mx_J B M d nx ls (xI z :: rest) h Post) : mx_J B M d pc ls (xI i :: .ref a :: rest) h Post := by
  obtain ⟨T, hc, hl, hT⟩ := hx.arr ha hS
  obtain ⟨c1, c2, c3, c4⟩ := cl_I h0 hl
  have e := hT i.toNat (Nat.ble_eq.mp c3)
  rw [c4, hz] at e
  refine mx_J.step hs (fun k call => ?_) hj
  unfold mx_zald
  simp only [hc, if_neg c2, c1, c3, cond_true, e]
  rfl
theorem JlaldL {a len : Nat} {i z : Int} (hx : XH n s S Z h) (hs : mx_Sn B M pc (mx_lald nx)) (ha : a < n) (hS : S a = .inr (.long, len, 1)) (h0 : 0 ≤ i ∧ i < (len : Int)) (hz : Z a i = z) (hj : mx_J B M d nx ls (xL z :: rest) h Post) : mx_J B M d pc ls (xI i :: .ref a :: rest) h Post := by
  obtain ⟨T, hc, hl, hT⟩ := hx.arr ha hS
  obtain ⟨c1, c2, c3, c4⟩ := cl_I h0 hl
  have e := hT i.toNat (Nat.ble_eq.mp c3)
  rw [c4, hz] at e
  refine mx_J.step hs (fun k call => ?_) hj
  unfold mx_lald
  simp only [hc, if_neg c2, c1, c3, cond_true, e]
  rfl
theorem JaaldR {a len b : Nat} {C : String} {i : Int} (hx : XH n s S Z h) (hs : mx_Sn B M pc (mx_aald nx)) (ha : a < n) (hS : S a = .inr (.object C, len, 2)) (h0 : 0 ≤ i ∧ i < (len : Int)) (hz : Z a i = ((b : Nat) : Int)) (hj : mx_J B M d nx ls (.ref b :: rest) h Post) : mx_J B M d pc ls (xI i :: .ref a :: rest) h Post := by
  obtain ⟨T, hc, hl, hT⟩ := hx.arr ha hS
  obtain ⟨c1, c2, c3, c4⟩ := cl_I h0 hl
  have e := hT i.toNat (Nat.ble_eq.mp c3)
  rw [c4, hz] at e
  refine mx_J.step hs (fun k call => ?_) hj
  unfold mx_aald
  simp only [hc, if_neg c2, c1, c3, cond_true, e]
  rfl
theorem by_I {z : Int} (hz : -128 ≤ z ∧ z ≤ 127) : (Int32.ofInt z).toInt8.toInt32 = Int32.ofInt z := by
  rw [Int32.toInt8_ofInt, Int8.toInt32_ofInt (by show -128 ≤ z; omega) (by show z ≤ 127; omega)]
theorem bo_I {z : Int} (hz : z = 0 ∨ z = 1) : Int32.ofInt z &&& 1 = Int32.ofInt z := by rcases hz with e | e <;> subst e <;> decide
theorem JiastI {KC a len : Nat} {i z : Int} (hx : XH n s S Z h) (hs : mx_Sn B M pc (mx_iast KC nx)) (ha : a < n) (hS : S a = .inr (.int, len, 0)) (hk : Nat.blt a KC = false) (h0 : 0 ≤ i ∧ i < (len : Int)) (hj : ∀ Z2 h2, XH n s S Z2 h2 → Z2 = up Z a i z → mx_J B M d nx ls rest h2 Post) : mx_J B M d pc ls (xI z :: xI i :: .ref a :: rest) h Post := by
  obtain ⟨T, hc, hl, hT⟩ := hx.arr ha hS
  obtain ⟨c1, c2, c3, c4⟩ := cl_I h0 hl
  refine mx_J.step hs (fun k call => ?_) (hj _ _ (hx.puta ha hS hl hT h0 (z := z)) rfl)
  unfold mx_iast
  simp only [hc, hk, if_neg c2, c1, c3, cond_true, cond_false]
  rfl
theorem JbastI {KC a len : Nat} {i z : Int} (hx : XH n s S Z h) (hs : mx_Sn B M pc (mx_bast KC nx)) (ha : a < n) (hS : S a = .inr (.byte, len, 0)) (hk : Nat.blt a KC = false) (h0 : 0 ≤ i ∧ i < (len : Int)) (hb : -128 ≤ z ∧ z ≤ 127) (hj : ∀ Z2 h2, XH n s S Z2 h2 → Z2 = up Z a i z → mx_J B M d nx ls rest h2 Post) : mx_J B M d pc ls (xI z :: xI i :: .ref a :: rest) h Post := by
  obtain ⟨T, hc, hl, hT⟩ := hx.arr ha hS
  obtain ⟨c1, c2, c3, c4⟩ := cl_I h0 hl
  refine mx_J.step hs (fun k call => ?_) (hj _ _ (hx.puta ha hS hl hT h0 (z := z)) rfl)
  unfold mx_bast
  simp only [hc, hk, if_neg c2, c1, c3, cond_true, cond_false, by_I hb]
  rfl
theorem JzastI {KC a len : Nat} {i z : Int} (hx : XH n s S Z h) (hs : mx_Sn B M pc (mx_zast KC nx)) (ha : a < n) (hS : S a = .inr (.boolean, len, 0)) (hk : Nat.blt a KC = false) (h0 : 0 ≤ i ∧ i < (len : Int)) (hb : z = 0 ∨ z = 1) (hj : ∀ Z2 h2, XH n s S Z2 h2 → Z2 = up Z a i z → mx_J B M d nx ls rest h2 Post) : mx_J B M d pc ls (xI z :: xI i :: .ref a :: rest) h Post := by
  obtain ⟨T, hc, hl, hT⟩ := hx.arr ha hS
  obtain ⟨c1, c2, c3, c4⟩ := cl_I h0 hl
  refine mx_J.step hs (fun k call => ?_) (hj _ _ (hx.puta ha hS hl hT h0 (z := z)) rfl)
  unfold mx_zast
  simp only [hc, hk, if_neg c2, c1, c3, cond_true, cond_false, bo_I hb]
  rfl
theorem JlastL {KC a len : Nat} {i z : Int} (hx : XH n s S Z h) (hs : mx_Sn B M pc (mx_last KC nx)) (ha : a < n) (hS : S a = .inr (.long, len, 1)) (hk : Nat.blt a KC = false) (h0 : 0 ≤ i ∧ i < (len : Int)) (hj : ∀ Z2 h2, XH n s S Z2 h2 → Z2 = up Z a i z → mx_J B M d nx ls rest h2 Post) : mx_J B M d pc ls (xL z :: xI i :: .ref a :: rest) h Post := by
  obtain ⟨T, hc, hl, hT⟩ := hx.arr ha hS
  obtain ⟨c1, c2, c3, c4⟩ := cl_I h0 hl
  refine mx_J.step hs (fun k call => ?_) (hj _ _ (hx.puta ha hS hl hT h0 (z := z)) rfl)
  unfold mx_last
  simp only [hc, hk, if_neg c2, c1, c3, cond_true, cond_false]
  rfl
theorem JalenI {a len t : Nat} {ty : FieldType} {z : Int} (hx : XH n s S Z h) (hs : mx_Sn B M pc (mx_alen nx)) (ha : a < n) (hS : S a = .inr (ty, len, t)) (hf : ty ≠ .float) (hz : z = (len : Int)) (hj : mx_J B M d nx ls (xI z :: rest) h Post) : mx_J B M d pc ls (.ref a :: rest) h Post := by
  obtain ⟨T, hc, hl, hT⟩ := hx.arr ha hS
  refine mx_J.step hs (fun k call => ?_) hj
  unfold mx_alen
  simp only [hc]
  rw [hz, xI, Int32.ofInt_eq_ofNat]
theorem JcI {c : Int32} {z : Int} (hs : mx_Sn B M pc (mx_const (.int c) nx)) (hc : c = Int32.ofInt z) (hj : mx_J B M d nx ls (xI z :: st) h Post) : mx_J B M d pc ls st h Post := mx_J.step hs (fun _ _ => by rw [hc]; rfl) hj
theorem JcL {c : Int64} {z : Int} (hs : mx_Sn B M pc (mx_const (.long c) nx)) (hc : c = Int64.ofInt z) (hj : mx_J B M d nx ls (xL z :: st) h Post) : mx_J B M d pc ls st h Post := mx_J.step hs (fun _ _ => by rw [hc]; rfl) hj
theorem Jiadd {a b : Int} (hs : mx_Sn B M pc (mx_iadd nx)) (hj : mx_J B M d nx ls (xI (a + b) :: rest) h Post) : mx_J B M d pc ls (xI b :: xI a :: rest) h Post := mx_J.step hs (fun k call => (show k nx ls (.int (Int32.ofInt a + Int32.ofInt b) :: rest) h = _ by rw [← Int32.ofInt_add])) hj
theorem Jladd {a b : Int} (hs : mx_Sn B M pc (mx_ladd nx)) (hj : mx_J B M d nx ls (xL (a + b) :: rest) h Post) : mx_J B M d pc ls (xL b :: xL a :: rest) h Post := mx_J.step hs (fun k call => (show k nx ls (.long (Int64.ofInt a + Int64.ofInt b) :: rest) h = _ by rw [← Int64.ofInt_add])) hj
theorem Jisub {a b : Int} (hs : mx_Sn B M pc (mx_isub nx)) (hj : mx_J B M d nx ls (xI (a - b) :: rest) h Post) : mx_J B M d pc ls (xI b :: xI a :: rest) h Post := mx_J.step hs (fun k call => (show k nx ls (.int (Int32.ofInt a - Int32.ofInt b) :: rest) h = _ by rw [← Int32.ofInt_sub])) hj
theorem Jlsub {a b : Int} (hs : mx_Sn B M pc (mx_lsub nx)) (hj : mx_J B M d nx ls (xL (a - b) :: rest) h Post) : mx_J B M d pc ls (xL b :: xL a :: rest) h Post := mx_J.step hs (fun k call => (show k nx ls (.long (Int64.ofInt a - Int64.ofInt b) :: rest) h = _ by rw [← Int64.ofInt_sub])) hj
theorem Jimul {a b : Int} (hs : mx_Sn B M pc (mx_imul nx)) (hj : mx_J B M d nx ls (xI (a * b) :: rest) h Post) : mx_J B M d pc ls (xI b :: xI a :: rest) h Post := mx_J.step hs (fun k call => (show k nx ls (.int (Int32.ofInt a * Int32.ofInt b) :: rest) h = _ by rw [← Int32.ofInt_mul])) hj
theorem Jlmul {a b : Int} (hs : mx_Sn B M pc (mx_lmul nx)) (hj : mx_J B M d nx ls (xL (a * b) :: rest) h Post) : mx_J B M d pc ls (xL b :: xL a :: rest) h Post := mx_J.step hs (fun k call => (show k nx ls (.long (Int64.ofInt a * Int64.ofInt b) :: rest) h = _ by rw [← Int64.ofInt_mul])) hj
theorem Jiinc {i : Nat} {c : Int32} {z cz : Int} (hs : mx_Sn B M pc (mx_iinc i c nx)) (hc : c = Int32.ofInt cz) (hl : mx_lg ls i = some (xI z)) (hb : Nat.blt i ls.length = true) (h2 : mx_st1 ls i (xI (z + cz)) = ls2) (hj : mx_J B M d nx ls2 st h Post) : mx_J B M d pc ls st h Post := by
  refine mx_J.step hs (fun k call => ?_) hj
  unfold mx_iinc
  simp only [hl, hb, cond_true]
  rw [hc, ← Int32.ofInt_add, h2]
theorem JiandX {x y : Int32} (hs : mx_Sn B M pc (mx_iand nx)) (hj : ∀ z, iI z → mx_J B M d nx ls (xI z :: rest) h Post) : mx_J B M d pc ls (.int y :: .int x :: rest) h Post := by
  obtain ⟨z, hz, e⟩ := rg_I (x &&& y)
  exact mx_J.step hs (fun k call => (show k nx ls (.int (x &&& y) :: rest) h = _ by rw [e])) (hj z hz)
theorem JiorX {x y : Int32} (hs : mx_Sn B M pc (mx_ior nx)) (hj : ∀ z, iI z → mx_J B M d nx ls (xI z :: rest) h Post) : mx_J B M d pc ls (.int y :: .int x :: rest) h Post := by
  obtain ⟨z, hz, e⟩ := rg_I (x ||| y)
  exact mx_J.step hs (fun k call => (show k nx ls (.int (x ||| y) :: rest) h = _ by rw [e])) (hj z hz)
theorem JixorX {x y : Int32} (hs : mx_Sn B M pc (mx_ixor nx)) (hj : ∀ z, iI z → mx_J B M d nx ls (xI z :: rest) h Post) : mx_J B M d pc ls (.int y :: .int x :: rest) h Post := by
  obtain ⟨z, hz, e⟩ := rg_I (x ^^^ y)
  exact mx_J.step hs (fun k call => (show k nx ls (.int (x ^^^ y) :: rest) h = _ by rw [e])) (hj z hz)
theorem JishlX {x y : Int32} (hs : mx_Sn B M pc (mx_ishl nx)) (hj : ∀ z, iI z → mx_J B M d nx ls (xI z :: rest) h Post) : mx_J B M d pc ls (.int y :: .int x :: rest) h Post := by
  obtain ⟨z, hz, e⟩ := rg_I (x <<< (y &&& 31))
  exact mx_J.step hs (fun k call => (show k nx ls (.int (x <<< (y &&& 31)) :: rest) h = _ by rw [e])) (hj z hz)
theorem JishrX {x y : Int32} (hs : mx_Sn B M pc (mx_ishr nx)) (hj : ∀ z, iI z → mx_J B M d nx ls (xI z :: rest) h Post) : mx_J B M d pc ls (.int y :: .int x :: rest) h Post := by
  obtain ⟨z, hz, e⟩ := rg_I (x >>> (y &&& 31))
  exact mx_J.step hs (fun k call => (show k nx ls (.int (x >>> (y &&& 31)) :: rest) h = _ by rw [e])) (hj z hz)
theorem JiushrX {x y : Int32} (hs : mx_Sn B M pc (mx_iushr nx)) (hj : ∀ z, iI z → mx_J B M d nx ls (xI z :: rest) h Post) : mx_J B M d pc ls (.int y :: .int x :: rest) h Post := by
  obtain ⟨z, hz, e⟩ := rg_I ((x.toUInt32 >>> (y.toUInt32 &&& Int32.toUInt32 31)).toInt32)
  exact mx_J.step hs (fun k call => (show k nx ls (.int ((x.toUInt32 >>> (y.toUInt32 &&& Int32.toUInt32 31)).toInt32) :: rest) h = _ by rw [e])) (hj z hz)
theorem JineX {x : Int32} (hs : mx_Sn B M pc (mx_ineg nx)) (hj : ∀ z, iI z → mx_J B M d nx ls (xI z :: rest) h Post) : mx_J B M d pc ls (.int x :: rest) h Post := by
  obtain ⟨z, hz, e⟩ := rg_I (-x)
  exact mx_J.step hs (fun k call => (show k nx ls (.int (-x) :: rest) h = _ by rw [e])) (hj z hz)
theorem and_I (z : Int) (m : Nat) (hm : m ≤ 31) : Int32.ofInt z &&& Int32.ofInt (2 ^ m - 1) = Int32.ofInt (z % 2 ^ m) := by
  apply Int32.toBitVec.inj
  rw [Int32.toBitVec_and, Int32.toBitVec_ofInt, Int32.toBitVec_ofInt, Int32.toBitVec_ofInt]
  apply BitVec.eq_of_toNat_eq
  have hp : (2 : Nat) ^ m ≤ 2 ^ 31 := Nat.pow_le_pow_right (by decide) hm
  have hq : 0 < (2 : Nat) ^ m := Nat.two_pow_pos m
  have hc : (2 : Int) ^ m = ((2 ^ m : Nat) : Int) := by rw [Int.natCast_pow]; rfl
  have hd : (2 : Nat) ^ 32 = 2 ^ m * 2 ^ (32 - m) := by rw [← Nat.pow_add]; congr 1; omega
  rw [BitVec.toNat_and, BitVec.toNat_ofInt, BitVec.toNat_ofInt, BitVec.toNat_ofInt, hc]
  have e1 : ((((2 ^ m : Nat) : Int) - 1) % ((2 ^ 32 : Nat) : Int)).toNat = 2 ^ m - 1 := by
    rw [Int.emod_eq_of_lt (by omega) (by have : (2 : Nat) ^ 31 < 2 ^ 32 := by decide
                                         omega)]
    omega
  rw [e1, Nat.and_two_pow_sub_one_eq_mod]
  have e2 : 0 ≤ z % ((2 ^ m : Nat) : Int) := Int.emod_nonneg _ (by omega)
  have e3 : z % ((2 ^ m : Nat) : Int) < ((2 ^ m : Nat) : Int) := Int.emod_lt_of_pos _ (by omega)
  rw [Int.emod_eq_of_lt (a := z % ((2 ^ m : Nat) : Int)) e2 (by have : (2 : Nat) ^ 31 < 2 ^ 32 := by decide
                                                                omega)]
  have e4 : z % ((2 ^ 32 : Nat) : Int) % ((2 ^ m : Nat) : Int) = z % ((2 ^ m : Nat) : Int) := Int.emod_emod_of_dvd z (by rw [hd]; exact ⟨_, by rw [Int.natCast_mul]⟩)
  have e5 : 0 ≤ z % ((2 ^ 32 : Nat) : Int) := Int.emod_nonneg _ (by decide)
  apply Int.ofNat.inj
  show (((z % ((2 ^ 32 : Nat) : Int)).toNat % 2 ^ m : Nat) : Int) = ((z % ((2 ^ m : Nat) : Int)).toNat : Int)
  rw [Int.natCast_emod, Int.toNat_of_nonneg e5, Int.toNat_of_nonneg e2, e4]
theorem JiandM {z q c : Int} (m : Nat) (hs : mx_Sn B M pc (mx_iand nx)) (hm : Nat.ble m 31 = true) (hq : q = 2 ^ m) (hc : c = q - 1) (hj : mx_J B M d nx ls (xI (z % q) :: rest) h Post) : mx_J B M d pc ls (xI c :: xI z :: rest) h Post := mx_J.step hs (fun k call => (show k nx ls (.int (Int32.ofInt z &&& Int32.ofInt c) :: rest) h = _ by rw [hc, hq, and_I z m (Nat.ble_eq.mp hm)])) hj
theorem Jif_eq {a : Int} (hs : mx_Sn B M pc (mx_if_eq tg nx)) (ha : iI a) (h1 : a = 0 → mx_J B M d tg ls rest h Post) (h2 : ¬ a = 0 → mx_J B M d nx ls rest h Post) : mx_J B M d pc ls (xI a :: rest) h Post := by
  have e : (Int32.ofInt a = 0) ↔ (a = 0) := by rw [z_I, eq_I ha (by decide)]
  by_cases hc : a = 0
  · exact mx_J.step hs (fun k call => (show (if Int32.ofInt a = 0 then k tg ls rest h else k nx ls rest h) = _ from if_pos (e.mpr hc))) (h1 hc)
  · exact mx_J.step hs (fun k call => (show (if Int32.ofInt a = 0 then k tg ls rest h else k nx ls rest h) = _ from if_neg (fun q => hc (e.mp q)))) (h2 hc)
theorem Jicmp_eq {a b : Int} (hs : mx_Sn B M pc (mx_icmp_eq tg nx)) (ha : iI a) (hb : iI b) (h1 : a = b → mx_J B M d tg ls rest h Post) (h2 : ¬ a = b → mx_J B M d nx ls rest h Post) : mx_J B M d pc ls (xI b :: xI a :: rest) h Post := by
  have e : (Int32.ofInt a = Int32.ofInt b) ↔ (a = b) := by rw [eq_I ha hb]
  by_cases hc : a = b
  · exact mx_J.step hs (fun k call => (show (if Int32.ofInt a = Int32.ofInt b then k tg ls rest h else k nx ls rest h) = _ from if_pos (e.mpr hc))) (h1 hc)
  · exact mx_J.step hs (fun k call => (show (if Int32.ofInt a = Int32.ofInt b then k tg ls rest h else k nx ls rest h) = _ from if_neg (fun q => hc (e.mp q)))) (h2 hc)
theorem Jlif_eq {a b : Int} (hs : mx_Sn B M pc (mx_lif_eq tg nx)) (ha : iL a) (hb : iL b) (h1 : a = b → mx_J B M d tg ls rest h Post) (h2 : ¬ a = b → mx_J B M d nx ls rest h Post) : mx_J B M d pc ls (xL b :: xL a :: rest) h Post := by
  have e : (lg_cmp (Int64.ofInt a) (Int64.ofInt b) = 0) ↔ (a = b) := by rw [lg_cmp_eq, eq_L ha hb]
  by_cases hc : a = b
  · exact mx_J.step hs (fun k call => (show (if lg_cmp (Int64.ofInt a) (Int64.ofInt b) = 0 then k tg ls rest h else k nx ls rest h) = _ from if_pos (e.mpr hc))) (h1 hc)
  · exact mx_J.step hs (fun k call => (show (if lg_cmp (Int64.ofInt a) (Int64.ofInt b) = 0 then k tg ls rest h else k nx ls rest h) = _ from if_neg (fun q => hc (e.mp q)))) (h2 hc)
theorem Jif_ne {a : Int} (hs : mx_Sn B M pc (mx_if_ne tg nx)) (ha : iI a) (h1 : ¬ a = 0 → mx_J B M d tg ls rest h Post) (h2 : a = 0 → mx_J B M d nx ls rest h Post) : mx_J B M d pc ls (xI a :: rest) h Post := by
  have e : (¬ Int32.ofInt a = 0) ↔ (¬ a = 0) := by rw [z_I, eq_I ha (by decide)]
  by_cases hc : ¬ a = 0
  · exact mx_J.step hs (fun k call => (show (if ¬ Int32.ofInt a = 0 then k tg ls rest h else k nx ls rest h) = _ from if_pos (e.mpr hc))) (h1 hc)
  · exact mx_J.step hs (fun k call => (show (if ¬ Int32.ofInt a = 0 then k tg ls rest h else k nx ls rest h) = _ from if_neg (fun q => hc (e.mp q)))) (h2 (Decidable.of_not_not hc))
theorem Jicmp_ne {a b : Int} (hs : mx_Sn B M pc (mx_icmp_ne tg nx)) (ha : iI a) (hb : iI b) (h1 : ¬ a = b → mx_J B M d tg ls rest h Post) (h2 : a = b → mx_J B M d nx ls rest h Post) : mx_J B M d pc ls (xI b :: xI a :: rest) h Post := by
  have e : (¬ Int32.ofInt a = Int32.ofInt b) ↔ (¬ a = b) := by rw [eq_I ha hb]
  by_cases hc : ¬ a = b
  · exact mx_J.step hs (fun k call => (show (if ¬ Int32.ofInt a = Int32.ofInt b then k tg ls rest h else k nx ls rest h) = _ from if_pos (e.mpr hc))) (h1 hc)
  · exact mx_J.step hs (fun k call => (show (if ¬ Int32.ofInt a = Int32.ofInt b then k tg ls rest h else k nx ls rest h) = _ from if_neg (fun q => hc (e.mp q)))) (h2 (Decidable.of_not_not hc))
theorem Jlif_ne {a b : Int} (hs : mx_Sn B M pc (mx_lif_ne tg nx)) (ha : iL a) (hb : iL b) (h1 : ¬ a = b → mx_J B M d tg ls rest h Post) (h2 : a = b → mx_J B M d nx ls rest h Post) : mx_J B M d pc ls (xL b :: xL a :: rest) h Post := by
  have e : (¬ lg_cmp (Int64.ofInt a) (Int64.ofInt b) = 0) ↔ (¬ a = b) := by rw [lg_cmp_eq, eq_L ha hb]
  by_cases hc : ¬ a = b
  · exact mx_J.step hs (fun k call => (show (if ¬ lg_cmp (Int64.ofInt a) (Int64.ofInt b) = 0 then k tg ls rest h else k nx ls rest h) = _ from if_pos (e.mpr hc))) (h1 hc)
  · exact mx_J.step hs (fun k call => (show (if ¬ lg_cmp (Int64.ofInt a) (Int64.ofInt b) = 0 then k tg ls rest h else k nx ls rest h) = _ from if_neg (fun q => hc (e.mp q)))) (h2 (Decidable.of_not_not hc))
theorem Jif_lt {a : Int} (hs : mx_Sn B M pc (mx_if_lt tg nx)) (ha : iI a) (h1 : a < 0 → mx_J B M d tg ls rest h Post) (h2 : ¬ a < 0 → mx_J B M d nx ls rest h Post) : mx_J B M d pc ls (xI a :: rest) h Post := by
  have e : (Int32.ofInt a < 0) ↔ (a < 0) := by rw [z_I, lt_I ha (by decide)]
  by_cases hc : a < 0
  · exact mx_J.step hs (fun k call => (show (if Int32.ofInt a < 0 then k tg ls rest h else k nx ls rest h) = _ from if_pos (e.mpr hc))) (h1 hc)
  · exact mx_J.step hs (fun k call => (show (if Int32.ofInt a < 0 then k tg ls rest h else k nx ls rest h) = _ from if_neg (fun q => hc (e.mp q)))) (h2 hc)
theorem Jicmp_lt {a b : Int} (hs : mx_Sn B M pc (mx_icmp_lt tg nx)) (ha : iI a) (hb : iI b) (h1 : a < b → mx_J B M d tg ls rest h Post) (h2 : ¬ a < b → mx_J B M d nx ls rest h Post) : mx_J B M d pc ls (xI b :: xI a :: rest) h Post := by
  have e : (Int32.ofInt a < Int32.ofInt b) ↔ (a < b) := by rw [lt_I ha hb]
  by_cases hc : a < b
  · exact mx_J.step hs (fun k call => (show (if Int32.ofInt a < Int32.ofInt b then k tg ls rest h else k nx ls rest h) = _ from if_pos (e.mpr hc))) (h1 hc)
  · exact mx_J.step hs (fun k call => (show (if Int32.ofInt a < Int32.ofInt b then k tg ls rest h else k nx ls rest h) = _ from if_neg (fun q => hc (e.mp q)))) (h2 hc)
theorem Jlif_lt {a b : Int} (hs : mx_Sn B M pc (mx_lif_lt tg nx)) (ha : iL a) (hb : iL b) (h1 : a < b → mx_J B M d tg ls rest h Post) (h2 : ¬ a < b → mx_J B M d nx ls rest h Post) : mx_J B M d pc ls (xL b :: xL a :: rest) h Post := by
  have e : (lg_cmp (Int64.ofInt a) (Int64.ofInt b) < 0) ↔ (a < b) := by rw [lg_cmp_lt, lt_L ha hb]
  by_cases hc : a < b
  · exact mx_J.step hs (fun k call => (show (if lg_cmp (Int64.ofInt a) (Int64.ofInt b) < 0 then k tg ls rest h else k nx ls rest h) = _ from if_pos (e.mpr hc))) (h1 hc)
  · exact mx_J.step hs (fun k call => (show (if lg_cmp (Int64.ofInt a) (Int64.ofInt b) < 0 then k tg ls rest h else k nx ls rest h) = _ from if_neg (fun q => hc (e.mp q)))) (h2 hc)
theorem Jif_ge {a : Int} (hs : mx_Sn B M pc (mx_if_ge tg nx)) (ha : iI a) (h1 : 0 ≤ a → mx_J B M d tg ls rest h Post) (h2 : ¬ 0 ≤ a → mx_J B M d nx ls rest h Post) : mx_J B M d pc ls (xI a :: rest) h Post := by
  have e : (0 ≤ Int32.ofInt a) ↔ (0 ≤ a) := by rw [z_I, le_I (by decide) ha]
  by_cases hc : 0 ≤ a
  · exact mx_J.step hs (fun k call => (show (if 0 ≤ Int32.ofInt a then k tg ls rest h else k nx ls rest h) = _ from if_pos (e.mpr hc))) (h1 hc)
  · exact mx_J.step hs (fun k call => (show (if 0 ≤ Int32.ofInt a then k tg ls rest h else k nx ls rest h) = _ from if_neg (fun q => hc (e.mp q)))) (h2 hc)
theorem Jicmp_ge {a b : Int} (hs : mx_Sn B M pc (mx_icmp_ge tg nx)) (ha : iI a) (hb : iI b) (h1 : b ≤ a → mx_J B M d tg ls rest h Post) (h2 : ¬ b ≤ a → mx_J B M d nx ls rest h Post) : mx_J B M d pc ls (xI b :: xI a :: rest) h Post := by
  have e : (Int32.ofInt b ≤ Int32.ofInt a) ↔ (b ≤ a) := by rw [le_I hb ha]
  by_cases hc : b ≤ a
  · exact mx_J.step hs (fun k call => (show (if Int32.ofInt b ≤ Int32.ofInt a then k tg ls rest h else k nx ls rest h) = _ from if_pos (e.mpr hc))) (h1 hc)
  · exact mx_J.step hs (fun k call => (show (if Int32.ofInt b ≤ Int32.ofInt a then k tg ls rest h else k nx ls rest h) = _ from if_neg (fun q => hc (e.mp q)))) (h2 hc)
theorem Jlif_ge {a b : Int} (hs : mx_Sn B M pc (mx_lif_ge tg nx)) (ha : iL a) (hb : iL b) (h1 : b ≤ a → mx_J B M d tg ls rest h Post) (h2 : ¬ b ≤ a → mx_J B M d nx ls rest h Post) : mx_J B M d pc ls (xL b :: xL a :: rest) h Post := by
  have e : (0 ≤ lg_cmp (Int64.ofInt a) (Int64.ofInt b)) ↔ (b ≤ a) := by rw [lg_cmp_ge, le_L hb ha]
  by_cases hc : b ≤ a
  · exact mx_J.step hs (fun k call => (show (if 0 ≤ lg_cmp (Int64.ofInt a) (Int64.ofInt b) then k tg ls rest h else k nx ls rest h) = _ from if_pos (e.mpr hc))) (h1 hc)
  · exact mx_J.step hs (fun k call => (show (if 0 ≤ lg_cmp (Int64.ofInt a) (Int64.ofInt b) then k tg ls rest h else k nx ls rest h) = _ from if_neg (fun q => hc (e.mp q)))) (h2 hc)
theorem Jif_gt {a : Int} (hs : mx_Sn B M pc (mx_if_gt tg nx)) (ha : iI a) (h1 : 0 < a → mx_J B M d tg ls rest h Post) (h2 : ¬ 0 < a → mx_J B M d nx ls rest h Post) : mx_J B M d pc ls (xI a :: rest) h Post := by
  have e : (0 < Int32.ofInt a) ↔ (0 < a) := by rw [z_I, lt_I (by decide) ha]
  by_cases hc : 0 < a
  · exact mx_J.step hs (fun k call => (show (if 0 < Int32.ofInt a then k tg ls rest h else k nx ls rest h) = _ from if_pos (e.mpr hc))) (h1 hc)
  · exact mx_J.step hs (fun k call => (show (if 0 < Int32.ofInt a then k tg ls rest h else k nx ls rest h) = _ from if_neg (fun q => hc (e.mp q)))) (h2 hc)
theorem Jicmp_gt {a b : Int} (hs : mx_Sn B M pc (mx_icmp_gt tg nx)) (ha : iI a) (hb : iI b) (h1 : b < a → mx_J B M d tg ls rest h Post) (h2 : ¬ b < a → mx_J B M d nx ls rest h Post) : mx_J B M d pc ls (xI b :: xI a :: rest) h Post := by
  have e : (Int32.ofInt b < Int32.ofInt a) ↔ (b < a) := by rw [lt_I hb ha]
  by_cases hc : b < a
  · exact mx_J.step hs (fun k call => (show (if Int32.ofInt b < Int32.ofInt a then k tg ls rest h else k nx ls rest h) = _ from if_pos (e.mpr hc))) (h1 hc)
  · exact mx_J.step hs (fun k call => (show (if Int32.ofInt b < Int32.ofInt a then k tg ls rest h else k nx ls rest h) = _ from if_neg (fun q => hc (e.mp q)))) (h2 hc)
theorem Jlif_gt {a b : Int} (hs : mx_Sn B M pc (mx_lif_gt tg nx)) (ha : iL a) (hb : iL b) (h1 : b < a → mx_J B M d tg ls rest h Post) (h2 : ¬ b < a → mx_J B M d nx ls rest h Post) : mx_J B M d pc ls (xL b :: xL a :: rest) h Post := by
  have e : (0 < lg_cmp (Int64.ofInt a) (Int64.ofInt b)) ↔ (b < a) := by rw [lg_cmp_gt, lt_L hb ha]
  by_cases hc : b < a
  · exact mx_J.step hs (fun k call => (show (if 0 < lg_cmp (Int64.ofInt a) (Int64.ofInt b) then k tg ls rest h else k nx ls rest h) = _ from if_pos (e.mpr hc))) (h1 hc)
  · exact mx_J.step hs (fun k call => (show (if 0 < lg_cmp (Int64.ofInt a) (Int64.ofInt b) then k tg ls rest h else k nx ls rest h) = _ from if_neg (fun q => hc (e.mp q)))) (h2 hc)
theorem Jif_le {a : Int} (hs : mx_Sn B M pc (mx_if_le tg nx)) (ha : iI a) (h1 : a ≤ 0 → mx_J B M d tg ls rest h Post) (h2 : ¬ a ≤ 0 → mx_J B M d nx ls rest h Post) : mx_J B M d pc ls (xI a :: rest) h Post := by
  have e : (Int32.ofInt a ≤ 0) ↔ (a ≤ 0) := by rw [z_I, le_I ha (by decide)]
  by_cases hc : a ≤ 0
  · exact mx_J.step hs (fun k call => (show (if Int32.ofInt a ≤ 0 then k tg ls rest h else k nx ls rest h) = _ from if_pos (e.mpr hc))) (h1 hc)
  · exact mx_J.step hs (fun k call => (show (if Int32.ofInt a ≤ 0 then k tg ls rest h else k nx ls rest h) = _ from if_neg (fun q => hc (e.mp q)))) (h2 hc)
theorem Jicmp_le {a b : Int} (hs : mx_Sn B M pc (mx_icmp_le tg nx)) (ha : iI a) (hb : iI b) (h1 : a ≤ b → mx_J B M d tg ls rest h Post) (h2 : ¬ a ≤ b → mx_J B M d nx ls rest h Post) : mx_J B M d pc ls (xI b :: xI a :: rest) h Post := by
  have e : (Int32.ofInt a ≤ Int32.ofInt b) ↔ (a ≤ b) := by rw [le_I ha hb]
  by_cases hc : a ≤ b
  · exact mx_J.step hs (fun k call => (show (if Int32.ofInt a ≤ Int32.ofInt b then k tg ls rest h else k nx ls rest h) = _ from if_pos (e.mpr hc))) (h1 hc)
  · exact mx_J.step hs (fun k call => (show (if Int32.ofInt a ≤ Int32.ofInt b then k tg ls rest h else k nx ls rest h) = _ from if_neg (fun q => hc (e.mp q)))) (h2 hc)
theorem Jlif_le {a b : Int} (hs : mx_Sn B M pc (mx_lif_le tg nx)) (ha : iL a) (hb : iL b) (h1 : a ≤ b → mx_J B M d tg ls rest h Post) (h2 : ¬ a ≤ b → mx_J B M d nx ls rest h Post) : mx_J B M d pc ls (xL b :: xL a :: rest) h Post := by
  have e : (lg_cmp (Int64.ofInt a) (Int64.ofInt b) ≤ 0) ↔ (a ≤ b) := by rw [lg_cmp_le, le_L ha hb]
  by_cases hc : a ≤ b
  · exact mx_J.step hs (fun k call => (show (if lg_cmp (Int64.ofInt a) (Int64.ofInt b) ≤ 0 then k tg ls rest h else k nx ls rest h) = _ from if_pos (e.mpr hc))) (h1 hc)
  · exact mx_J.step hs (fun k call => (show (if lg_cmp (Int64.ofInt a) (Int64.ofInt b) ≤ 0 then k tg ls rest h else k nx ls rest h) = _ from if_neg (fun q => hc (e.mp q)))) (h2 hc)
theorem Ji2l {z : Int} (hs : mx_Sn B M pc (mx_i2l nx)) (hz : iI z) (hj : mx_J B M d nx ls (xL z :: rest) h Post) : mx_J B M d pc ls (xI z :: rest) h Post := mx_J.step hs (fun k call => (show k nx ls (.long (Int32.ofInt z).toInt64 :: rest) h = _ by rw [Int32.toInt64_ofInt (by show -2147483648 ≤ z; omega) (by show z ≤ 2147483647; omega)])) hj
theorem Jl2i {z : Int} (hs : mx_Sn B M pc (mx_l2i nx)) (hj : mx_J B M d nx ls (xI z :: rest) h Post) : mx_J B M d pc ls (xL z :: rest) h Post := mx_J.step hs (fun k call => (show k nx ls (.int (Int64.ofInt z).toInt32 :: rest) h = _ by rw [Int64.toInt32_ofInt])) hj
theorem Ji2bX {x : Int32} (hs : mx_Sn B M pc (mx_i2b nx)) (hj : ∀ z, -128 ≤ z ∧ z ≤ 127 → mx_J B M d nx ls (xI z :: rest) h Post) : mx_J B M d pc ls (.int x :: rest) h Post := by
  have h1 := x.toInt8.le_toInt
  have h2 := x.toInt8.toInt_lt
  exact mx_J.step hs (fun k call => (show k nx ls (.int x.toInt8.toInt32 :: rest) h = k nx ls (xI x.toInt8.toInt :: rest) h by rw [xI, Int32.ofInt_int8ToInt])) (hj _ ⟨by omega, by omega⟩)
theorem Ji2sX {x : Int32} (hs : mx_Sn B M pc (mx_i2s nx)) (hj : ∀ z, -32768 ≤ z ∧ z ≤ 32767 → mx_J B M d nx ls (xI z :: rest) h Post) : mx_J B M d pc ls (.int x :: rest) h Post := by
  have h1 := x.toInt16.le_toInt
  have h2 := x.toInt16.toInt_lt
  exact mx_J.step hs (fun k call => (show k nx ls (.int x.toInt16.toInt32 :: rest) h = k nx ls (xI x.toInt16.toInt :: rest) h by rw [xI, Int32.ofInt_int16ToInt])) (hj _ ⟨by omega, by omega⟩)
theorem Jnorm {z : Int} (hj : ∀ y, iI y → (∃ q : Int, y = z + 4294967296 * q) → mx_J B M d pc ls (xI y :: rest) h Post) : mx_J B M d pc ls (xI z :: rest) h Post := by
  have e : Int32.ofInt z = Int32.ofInt (z.bmod 4294967296) := by
    rw [← Int32.toInt_inj, Int32.toInt_ofInt, Int32.toInt_ofInt]
    show z.bmod 4294967296 = (z.bmod 4294967296).bmod 4294967296
    rw [Int.bmod_bmod]
  have h1 := Int.le_bmod (x := z) (m := 4294967296) (by decide)
  have h2 := Int.bmod_lt (x := z) (m := 4294967296) (by decide)
  have := hj (z.bmod 4294967296) ⟨by omega, by omega⟩ ⟨-(Int.bdiv z 4294967296), by have := Int.bmod_add_bdiv z 4294967296; omega⟩
  rw [xI, e]
  exact this
theorem Jmmax {a b : Int} (hs : mx_Sn B M pc (mx_mmax nx)) (ha : iI a) (hb : iI b) (hd : ∃ d2, d = d2 + 1) (hl : Nat.ble (mx_cat rest) 8 = true) (hj : ∀ z, a ≤ z ∧ b ≤ z ∧ (z = a ∨ z = b) → mx_J B M d nx ls (xI z :: rest) h Post) : mx_J B M d pc ls (xI b :: xI a :: rest) h Post := by
  obtain ⟨d2, hd⟩ := hd
  have e : (if Int32.ofInt a < Int32.ofInt b then Int32.ofInt b else Int32.ofInt a) = Int32.ofInt (if a < b then b else a) := by
    by_cases hc : a < b
    · rw [if_pos hc, if_pos ((lt_I ha hb).mpr hc)]
    · rw [if_neg hc, if_neg (fun q => hc ((lt_I ha hb).mp q))]
  refine mx_J.call (mi := 0) (as := []) (r1 := (none, h)) (st2 := xI (if a < b then b else a) :: rest) hs (fun k call e2 => ?_) ⟨d2, hd, ⟨Nat.le_refl _, Nat.le_refl _⟩, fun z => absurd rfl z⟩ (hj _ (by
    by_cases hc : a < b
    · rw [if_pos hc]; omega
    · rw [if_neg hc]; omega))
  unfold mx_mmax
  simp only [hl, cond_true, e2, e]
theorem Jmmin {a b : Int} (hs : mx_Sn B M pc (mx_mmin nx)) (ha : iI a) (hb : iI b) (hd : ∃ d2, d = d2 + 1) (hl : Nat.ble (mx_cat rest) 8 = true) (hj : ∀ z, z ≤ a ∧ z ≤ b ∧ (z = a ∨ z = b) → mx_J B M d nx ls (xI z :: rest) h Post) : mx_J B M d pc ls (xI b :: xI a :: rest) h Post := by
  obtain ⟨d2, hd⟩ := hd
  have e : (if Int32.ofInt b < Int32.ofInt a then Int32.ofInt b else Int32.ofInt a) = Int32.ofInt (if b < a then b else a) := by
    by_cases hc : b < a
    · rw [if_pos hc, if_pos ((lt_I hb ha).mpr hc)]
    · rw [if_neg hc, if_neg (fun q => hc ((lt_I hb ha).mp q))]
  refine mx_J.call (mi := 0) (as := []) (r1 := (none, h)) (st2 := xI (if b < a then b else a) :: rest) hs (fun k call e2 => ?_) ⟨d2, hd, ⟨Nat.le_refl _, Nat.le_refl _⟩, fun z => absurd rfl z⟩ (hj _ (by
    by_cases hc : b < a
    · rw [if_pos hc]; omega
    · rw [if_neg hc]; omega))
  unfold mx_mmin
  simp only [hl, cond_true, e2, e]
theorem Jcv {mi nt ci b : Nat} {as : List Value} {v : Value} {h2 : mx_H} {ks : List Nat} (hx : XH n s S Z h) (hs : mx_Sn B M pc (mx_callv mi nt ci nx)) (hb : b < n) (hS : S b = .inl (ci, ks)) (hca : mx_Ca B d mi (.ref b :: as) h (some v, h2)) (hst : (st.take nt).reverse = .ref b :: as) (hl : (Nat.beq as.length (nt - 1) && Nat.ble (mx_cat (st.drop nt)) 8) = true) (hr : st.drop nt = rest) (hj : mx_J B M d nx ls (v :: rest) h2 Post) : mx_J B M d pc ls st h Post := by
  subst hr
  have hc := hx.obj hb hS
  refine mx_J.call (r1 := (some v, h2)) hs (fun k call e => ?_) hca hj
  unfold mx_callv
  simp only [hst, hc, Nat.beq_refl, Bool.true_and, hl, cond_true, e]
  rfl
theorem Jcv0 {mi nt ci b : Nat} {as : List Value} {h2 : mx_H} {ks : List Nat} (hx : XH n s S Z h) (hs : mx_Sn B M pc (mx_callv mi nt ci nx)) (hb : b < n) (hS : S b = .inl (ci, ks)) (hca : mx_Ca B d mi (.ref b :: as) h (none, h2)) (hst : (st.take nt).reverse = .ref b :: as) (hl : (Nat.beq as.length (nt - 1) && Nat.ble (mx_cat (st.drop nt)) 8) = true) (hr : st.drop nt = rest) (hj : mx_J B M d nx ls rest h2 Post) : mx_J B M d pc ls st h Post := by
  subst hr
  have hc := hx.obj hb hS
  refine mx_J.call (r1 := (none, h2)) hs (fun k call e => ?_) hca hj
  unfold mx_callv
  simp only [hst, hc, Nat.beq_refl, Bool.true_and, hl, cond_true, e]
  rfl
theorem Jcs {mi nt : Nat} {as : List Value} {v : Value} {h2 : mx_H} (hs : mx_Sn B M pc (mx_calls mi nt nx)) (hca : mx_Ca B d mi as h (some v, h2)) (hst : (st.take nt).reverse = as) (hl : (Nat.beq (st.take nt).length nt && Nat.ble (mx_cat (st.drop nt)) 8) = true) (hr : st.drop nt = rest) (hj : mx_J B M d nx ls (v :: rest) h2 Post) : mx_J B M d pc ls st h Post := by
  subst hr
  refine mx_J.call (r1 := (some v, h2)) hs (fun k call e => ?_) hca hj
  unfold mx_calls
  simp only [hst, hl, cond_true, e]
  rfl
theorem Jcs0 {mi nt : Nat} {as : List Value} {h2 : mx_H} (hs : mx_Sn B M pc (mx_calls mi nt nx)) (hca : mx_Ca B d mi as h (none, h2)) (hst : (st.take nt).reverse = as) (hl : (Nat.beq (st.take nt).length nt && Nat.ble (mx_cat (st.drop nt)) 8) = true) (hr : st.drop nt = rest) (hj : mx_J B M d nx ls rest h2 Post) : mx_J B M d pc ls st h Post := by
  subst hr
  refine mx_J.call (r1 := (none, h2)) hs (fun k call e => ?_) hca hj
  unfold mx_calls
  simp only [hst, hl, cond_true, e]
  rfl
theorem Jtsw {lo hi z : Int} {ts : List Nat} {df : Nat} (hs : mx_Sn B M pc (mx_tsw lo hi ts df)) (hz : iI z) (h0 : (z < lo ∨ hi < z) → mx_J B M d df ls rest h Post) (h1 : lo ≤ z ∧ z ≤ hi → ∃ t, ts[(z - lo).toNat]? = some t ∧ mx_J B M d t ls rest h Post) : mx_J B M d pc ls (xI z :: rest) h Post := by
  by_cases hc : z < lo ∨ hi < z
  · refine mx_J.step hs (fun k call => ?_) (h0 hc)
    unfold mx_tsw
    simp only [ti_I hz, if_pos hc]
  · obtain ⟨t, ht, hj⟩ := h1 (by omega)
    refine mx_J.step hs (fun k call => ?_) hj
    unfold mx_tsw
    simp only [ti_I hz, if_neg hc, ht]
theorem Jlsw {z : Int} {ps : List (Int × Nat)} {df t : Nat} (hs : mx_Sn B M pc (mx_lsw ps df)) (hz : iI z) (ht : mx_find ps df z = t) (hj : mx_J B M d t ls rest h Post) : mx_J B M d pc ls (xI z :: rest) h Post := by
  refine mx_J.step hs (fun k call => ?_) hj
  unfold mx_lsw
  simp only [ti_I hz, ht]
theorem Jidiv {a b : Int} (hs : mx_Sn B M pc (mx_idiv nx)) (ha : 0 ≤ a ∧ a ≤ 2147483647) (hb : 0 < b ∧ b ≤ 2147483647) (hj : mx_J B M d nx ls (xI (a / b) :: rest) h Post) : mx_J B M d pc ls (xI b :: xI a :: rest) h Post := by
  have hb2 : iI b := by omega
  have ha2 : iI a := by omega
  have h0 : ¬ Int32.ofInt b = 0 := by rw [z_I, eq_I hb2 (by decide)]; omega
  have e : Int32.ofInt a / Int32.ofInt b = Int32.ofInt (a / b) := by
    rw [← Int.tdiv_eq_ediv_of_nonneg ha.1, Int32.ofInt_tdiv (by show -2147483648 ≤ a; omega) (by show a ≤ 2147483647; omega) (by show -2147483648 ≤ b; omega) (by show b ≤ 2147483647; omega)]
  refine mx_J.step hs (fun k call => ?_) hj
  unfold mx_idiv
  simp only [if_neg h0, e]
theorem Jirem {a b : Int} (hs : mx_Sn B M pc (mx_irem nx)) (ha : 0 ≤ a ∧ a ≤ 2147483647) (hb : 0 < b ∧ b ≤ 2147483647) (hj : mx_J B M d nx ls (xI (a % b) :: rest) h Post) : mx_J B M d pc ls (xI b :: xI a :: rest) h Post := by
  have hb2 : iI b := by omega
  have ha2 : iI a := by omega
  have h0 : ¬ Int32.ofInt b = 0 := by rw [z_I, eq_I hb2 (by decide)]; omega
  have e : Int32.ofInt a - Int32.ofInt a / Int32.ofInt b * Int32.ofInt b = Int32.ofInt (a % b) := by
    rw [show Int32.ofInt a / Int32.ofInt b = Int32.ofInt (a / b) by
      rw [← Int.tdiv_eq_ediv_of_nonneg ha.1, Int32.ofInt_tdiv (by show -2147483648 ≤ a; omega) (by show a ≤ 2147483647; omega) (by show -2147483648 ≤ b; omega) (by show b ≤ 2147483647; omega)]]
    rw [← Int32.ofInt_mul, ← Int32.ofInt_sub, Int.emod_def, Int.mul_comm]
  refine mx_J.step hs (fun k call => ?_) hj
  unfold mx_irem
  simp only [if_neg h0, e]
theorem JldivX {x : Int64} {b : Int} (hs : mx_Sn B M pc (mx_ldiv nx)) (hb : iL b) (hn : ¬ b = 0) (hj : ∀ z, iL z → mx_J B M d nx ls (xL z :: rest) h Post) : mx_J B M d pc ls (xL b :: .long x :: rest) h Post := by
  have h0 : ¬ Int64.ofInt b = 0 := by rw [show (0 : Int64) = Int64.ofInt 0 from rfl, eq_L hb (by decide)]; exact hn
  obtain ⟨z, hz, e⟩ := rg_L (x / Int64.ofInt b)
  refine mx_J.step hs (fun k call => ?_) (hj z hz)
  unfold mx_ldiv
  simp only [if_neg h0, e]
/-- a method from its entry on -/
theorem Jmt {mi : Nat} {as : List Value} (k1 : (B.2.2.1 mi).cls = M.2.2.1) (k2 : (B.2.2.1 mi).name = M.2.2.2.1) (k3 : plainName (B.2.2.1 mi).cls = true) (k4 : B.2.2.2 mi = Cond.code (B.2.2.1 mi) M.1 M.2.1 M.2.2.2.2 :: B.2.1.2.1) (hlen : (mx_ent as M.2.1).length = M.2.1) (he : mx_ent as M.2.1 = ls) (hj : mx_J B M d 0 ls [] h Post) : ∃ r, mx_Ca B (d + 1) mi as h r ∧ Post r := mx_J.met k1 k2 k3 k4 hlen (by rw [he]; exact hj)
end XJ
