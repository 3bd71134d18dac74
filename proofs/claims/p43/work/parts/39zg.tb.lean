/-! the tables of stands of both sides; numbers that are told by tallies -/
section TBa
variable {Z Z2 : xZ}
theorem hln_b {N s : Int} (hN : 1 ≤ N ∧ N ≤ 18) (h0 : 0 ≤ s) (h1 : s < pN N) : 1 ≤ hln N s ∧ hln N s ≤ 18 := by
  have l := hpl_l hN h0 h1
  have a := l.1
  have b := l.2.1
  unfold hln
  omega
theorem RV_g : ∀ {l : List Int}, RV Z l → ∀ q : Nat, q < l.length → Z 11 ((q : Nat) : Int) = l.reverse.getD q 0
  | [], _, q, h => absurd h (Nat.not_lt_zero q)
  | a :: t, hr, q, h => by
    have h : q < t.length + 1 := h
    have hl : t.reverse.length = t.length := List.length_reverse
    rw [List.reverse_cons]
    by_cases e : q < t.length
    · rw [gD_a _ _ _ (by omega)]; exact RV_g hr.2 q e
    · have eq : q = t.reverse.length := by omega
      subst eq
      rw [gD_e, hl]; exact hr.1
/-- the class's tables are right for the first k stands -/
def CTS (Z : xZ) (N k : Int) : Prop := ∀ t : Int, 0 ≤ t → t < k → Z 10 t = hln N t ∧ ∀ p : Int, 0 ≤ p → p < hln N t → Z 9 (t * 18 + p) = hpk N t p
def CTB (Z : xZ) (N : Int) : Prop := Z 7 4 = N ∧ Z 7 5 = pN N ∧ CTS Z N (pN N)
theorem cts_0 {N : Int} : CTS Z N 0 := fun t a b => absurd b (by omega)
theorem cts_9 {N k g v : Int} (h : CTS Z N k) (hE : Z2 = up Z 9 g v) (hg : k * 18 ≤ g) (hN : 1 ≤ N ∧ N ≤ 18) (hk : k ≤ pN N) : CTS Z2 N k := fun t a b => by
  have q := h t a b
  have l := hln_b hN a (show t < pN N by omega)
  refine ⟨(up_nk hE rfl).trans q.1, fun p c e => ?_⟩
  rw [up_ni hE (by omega)]; exact q.2 p c e
theorem cts_s {N k len : Int} (h : CTS Z N k) (hc : CPY Z k len) (hr : rwf Z N k len = 1) (hE : Z2 = up Z 10 k len) : CTS Z2 N (k + 1) := fun t a b => by
  by_cases e : t = k
  · subst e
    obtain ⟨e1, e2⟩ := rwf_p hr
    have hl : hln N t = len := by unfold hln hpl; rw [List.length_reverse]; exact e1
    refine ⟨(up_at hE).trans hl.symm, fun p c d => ?_⟩
    rw [up_nk hE rfl, hc p c (by omega)]
    have g := RV_g e2 p.toNat (by omega)
    rw [Int.toNat_of_nonneg c] at g
    rw [g]; rfl
  · have q := h t a (by omega)
    exact ⟨(up_ni hE e).trans q.1, fun p c d => (up_nk hE rfl).trans (q.2 p c d)⟩
theorem cts_c {N k : Int} (h : CTS Z N k) (h9 : ∀ i, Z2 9 i = Z 9 i) (h10 : ∀ i, Z2 10 i = Z 10 i) : CTS Z2 N k := fun t a b => ⟨(h10 t).trans (h t a b).1, fun p c d => (h9 _).trans ((h t a b).2 p c d)⟩
theorem CTB_c {N : Int} (h : CTB Z N) (h4 : Z2 7 4 = Z 7 4) (h5 : Z2 7 5 = Z 7 5) (h9 : ∀ i, Z2 9 i = Z 9 i) (h10 : ∀ i, Z2 10 i = Z 10 i) : CTB Z2 N := ⟨h4.trans h.1, h5.trans h.2.1, cts_c h.2.2 h9 h10⟩
theorem CTB_m {N k : Int} (h4 : Z 7 4 = N) (h5 : Z 7 5 = wy (N * 19 + N)) (h : CTS Z N k) (hk : Z 7 5 ≤ k) : CTB Z N := ⟨h4, h5, fun t a b => h t a (by unfold pN at b; omega)⟩
/-- what heapsOf(), sizeOf() tell -/
theorem CTB_h {N t : Int} (h : CTB Z N) (h0 : 0 ≤ t) (h1 : t < pN N) : Z 10 t = hln N t := (h.2.2 t h0 h1).1
theorem CTB_s {N t p : Int} (h : CTB Z N) (h0 : 0 ≤ t) (h1 : t < pN N) (p0 : 0 ≤ p) (p1 : p < hln N t) : Z 9 (t * 18 + p) = hpk N t p := (h.2.2 t h0 h1).2 p p0 p1
/-- behind the last heap: nothing -/
theorem gD_o : ∀ (l : List Int) (k : Nat), l.length ≤ k → l.getD k 0 = 0
  | [], _, _ => rfl
  | _ :: l, 0, h => absurd h (Nat.not_succ_le_zero _)
  | _ :: l, k + 1, h => gD_o l k (Nat.le_of_succ_le_succ h)
theorem hpk_o {N s k : Int} (h : hln N s ≤ k) : hpk N s k = 0 := by
  unfold hpk
  unfold hln at h
  exact gD_o _ _ (by omega)
/-- the reference's rows -/
def RTB (Z : xZ) (N : Int) : Prop := ∀ t k : Int, 0 ≤ t → t < pN N → 0 ≤ k → k < 18 → Z 61 (18 * t + k) = hpk N t k
theorem RTB_c {N : Int} (h : RTB Z N) (e : ∀ i, Z2 61 i = Z 61 i) : RTB Z2 N := fun t k a b c d => (e _).trans (h t k a b c d)
theorem RTB_e {N M : Int} (h : RTB Z N) (e : ∀ i, Z2 61 i = Z 61 i) (q : M = N) : RTB Z2 M := q.symm ▸ RTB_c h e
end TBa
/-! the number that numberOf() tells -/
section TBb
theorem nmf_s (f : Int → Int) (k : Nat) (nb rest above : Int) : nmf f (k + 1) nb rest above = if rest ≤ 0 then nb else if 0 < f ((k + 1 : Nat) : Int) then nmf f k (nb + (wy (rest * 19 + above) - wy (rest * 19 + ((k + 1 : Nat) : Int)))) (rest - ((k + 1 : Nat) : Int) * f ((k + 1 : Nat) : Int)) ((k + 1 : Nat) : Int) else nmf f k nb rest above := rfl
noncomputable def nmi (f : Int → Int) (sz nb rest above : Int) : Int := nmf f sz.toNat nb rest above
theorem nmi_x {f : Int → Int} {N : Int} : nmi f 18 0 N 18 = nmN N f := rfl
theorem nmi_0 {f : Int → Int} {sz nb rest above : Int} (h : sz ≤ 0 ∨ rest ≤ 0) : nmi f sz nb rest above = nb := by
  unfold nmi
  by_cases e : sz ≤ 0
  · rw [show sz.toNat = 0 by omega]; rfl
  · obtain ⟨k, hk⟩ : ∃ k : Nat, sz.toNat = k + 1 := ⟨sz.toNat - 1, by omega⟩
    rw [hk, nmf_s, if_pos (by omega)]
theorem nmi_y {f : Int → Int} {sz nb rest above y : Int} (h1 : 0 < sz) (h2 : 0 < rest) (h3 : 0 < f sz) (hy : y = sz * f sz) : nmi f sz nb rest above = nmi f (sz - 1) (nb + (wy (rest * 19 + above) - wy (rest * 19 + sz))) (rest - y) sz := by
  obtain ⟨k, hk⟩ : ∃ k : Nat, sz = ((k + 1 : Nat) : Int) := ⟨sz.toNat - 1, by omega⟩
  subst hk
  subst hy
  unfold nmi
  rw [Int.toNat_natCast, nmf_s, if_neg (by omega), if_pos h3, show (((k + 1 : Nat) : Int) - 1).toNat = k by omega]
theorem nmt_y {f : Int → Int} {sz nb rest above y q a b : Int} (h : nmi f sz nb rest above = q) (h1 : 0 < sz) (h2 : 0 < rest) (h3 : 0 < f sz) (hy : y = sz * f sz) (hw : nb + (a - b) = nb + (wy (rest * 19 + above) - wy (rest * 19 + sz))) : nmi f (sz - 1) (nb + (a - b)) (rest - y) sz = q := by
  rw [hw, ← nmi_y h1 h2 h3 hy]; exact h
theorem nmi_n {f : Int → Int} {sz nb rest above : Int} (h1 : 0 < sz) (h2 : 0 < rest) (h3 : f sz ≤ 0) : nmi f sz nb rest above = nmi f (sz - 1) nb rest above := by
  obtain ⟨k, hk⟩ : ∃ k : Nat, sz = ((k + 1 : Nat) : Int) := ⟨sz.toNat - 1, by omega⟩
  subst hk
  unfold nmi
  rw [Int.toNat_natCast, nmf_s, if_neg (by omega), if_neg (by omega), show (((k + 1 : Nat) : Int) - 1).toNat = k by omega]
end TBb
section TBr
variable {B : mx_B} {M : mx_M} {d pc nx : Nat} {ls : mx_L} {rest : List Value} {h : mx_H} {Post : mx_R → Prop}
theorem mul_bb {a b A C : Int} (ha : 0 ≤ a ∧ a ≤ A) (hb : 0 ≤ b ∧ b ≤ C) : 0 ≤ a * b ∧ a * b ≤ A * C ∧ (0 < a → b ≤ a * b) ∧ (0 < b → a ≤ a * b) := by
  refine ⟨Int.mul_nonneg ha.1 hb.1, Int.mul_le_mul ha.2 hb.2 hb.1 (by omega), fun q => ?_, fun q => ?_⟩
  · have := Int.mul_le_mul_of_nonneg_right (a := 1) (b := a) (c := b) (by omega) hb.1
    omega
  · have := Int.mul_le_mul_of_nonneg_left (a := 1) (b := b) (c := a) (by omega) ha.1
    omega
theorem JimulQ {a b A C : Int} (hs : mx_Sn B M pc (mx_imul nx)) (ha : 0 ≤ a ∧ a ≤ A) (hb : 0 ≤ b ∧ b ≤ C) (hac : A * C ≤ 2147483647) (hj : ∀ y, 0 ≤ y ∧ y ≤ A * C ∧ (0 < a → b ≤ y) ∧ (0 < b → a ≤ y) → y = a * b → mx_J B M d nx ls (xI y :: rest) h Post) : mx_J B M d pc ls (xI b :: xI a :: rest) h Post := Jimul hs (hj _ (mul_bb ha hb) rfl)
end TBr
section TBe
variable {Z Z2 : xZ}
theorem CTB_r {N : Int} (h : CTB Z (Z 7 4)) (e : N = Z 7 4) : CTB Z N := e ▸ h
theorem CTB_7 {N : Int} (h : CTB Z N) : CTB Z (Z 7 4) := h.1.symm ▸ h
theorem CTB_e {N M : Int} (h : CTB Z N) (e : M = N) : CTB Z M := e.symm ▸ h
/-- what barn() leaves all together -/
noncomputable def tt (t : Int) : Int := if t = 0 then 1 else t
def BST (T : Int → Int) (N z a a' : Int) : Prop := (z < 0 → a' = a) ∧ (0 ≤ z → a' = tt (tot (rdX T N).2.1.1))
theorem RDc_t {T : Int → Int} {N : Int} (h : RDc T N Z) (h14 : Z 3 14 = 0) : Z 3 12 = tt (tot (rdX T N).2.1.1) := by
  have f := (RDc_f h).2 h14
  obtain ⟨s, t, h1, h2, h3, h4⟩ := h
  have e := h2.1
  have q := (h2.2 (by omega)).2
  unfold tt
  by_cases c : t = 0
  · rw [if_pos (by omega)]; exact h3 c
  · rw [if_neg (by omega), ← q]; exact h4 c
/-- all the same, so far -/
def FLL (Z : xZ) (c : Nat) (k v : Int) : Prop := ∀ i : Int, 0 ≤ i → i < k → Z c i = v
theorem fll_0 {c : Nat} {v : Int} : FLL Z c 0 v := fun i a b => absurd b (by omega)
theorem fll_s {c : Nat} {k v : Int} (h : FLL Z c k v) (hE : Z2 = up Z c k v) : FLL Z2 c (k + 1) v := fun i a b => by
  by_cases e : i = k
  · rw [e]; exact up_at hE
  · rw [up_ni hE e]; exact h i a (by omega)
theorem fll_m {c : Nat} {k n v : Int} (h : FLL Z c k v) (hk : n ≤ k) : FLL Z c n v := fun i a b => h i a (by omega)
theorem fll_e {c : Nat} {k v : Int} (h : FLL Z c k v) (hk : 40 ≤ k) : FLL Z c 40 v := fun i a b => h i a (by omega)
end TBe
/-! lists laid by recursion: as many and those that PL tells, whatever the fuel -/
section TBc
theorem PL_f : ∀ (f g n m : Nat), n + m < f → n + m < g → PL f n m = PL g n m
  | 0, _, _, _, h, _ => absurd h (by omega)
  | _ + 1, 0, _, _, _, h => absurd h (by omega)
  | f + 1, g + 1, n, m, hf, hg => by
    by_cases hn : n = 0
    · rw [show PL (f + 1) n m = [[]] from if_pos hn, show PL (g + 1) n m = [[]] from if_pos hn]
    · by_cases hm : m = 0
      · rw [show PL (f + 1) n m = [] from (if_neg hn).trans (if_pos hm), show PL (g + 1) n m = [] from (if_neg hn).trans (if_pos hm)]
      · rw [PL_s hn hm, PL_s hn hm, PL_f f g n (m - 1) (by omega) (by omega)]
        by_cases c : m ≤ n
        · rw [if_pos c, if_pos c, PL_f f g (n - m) m (by omega) (by omega)]
        · rw [if_neg c, if_neg c]
/-- by integers -/
noncomputable def PLQ (n m : Int) : List (List Int) := PL 37 n.toNat m.toNat
theorem PLQ_0 {m : Int} : PLQ 0 m = [[]] := rfl
theorem PLQ_z {n : Int} (h : 0 < n) {m : Int} (hm : m ≤ 0) : PLQ n m = [] := by
  unfold PLQ
  exact (if_neg (by omega)).trans (if_pos (by omega))
theorem PLQ_s {n m : Int} (hn : 0 < n) (hn2 : n ≤ 18) (hm : 0 < m) (hm2 : m ≤ n) : PLQ n m = (PLQ (n - m) m).map (fun l => m :: l) ++ PLQ n (m - 1) := by
  unfold PLQ
  have e : PL 37 n.toNat m.toNat = (if m.toNat ≤ n.toNat then (PL 36 (n.toNat - m.toNat) m.toNat).map (fun l => ((m.toNat : Nat) : Int) :: l) else []) ++ PL 36 n.toNat (m.toNat - 1) := PL_s (f := 36) (by omega) (by omega)
  rw [e, if_pos (by omega), PL_f 36 37 (n.toNat - m.toNat) m.toNat (by omega) (by omega), PL_f 36 37 n.toNat (m.toNat - 1) (by omega) (by omega), show (n - m).toNat = n.toNat - m.toNat by omega, show (m - 1).toNat = m.toNat - 1 by omega, show ((m.toNat : Nat) : Int) = m by omega]
theorem PLQ_k {n : Int} (hn : 0 < n) (hn2 : n ≤ 18) : ∀ k : Nat, n + (k : Int) ≤ 18 → PLQ n (n + (k : Int)) = PLQ n n
  | 0, _ => by rw [show n + ((0 : Nat) : Int) = n by omega]
  | k + 1, h => by
    rw [← PLQ_k hn hn2 k (by omega)]
    unfold PLQ
    have e : PL 37 n.toNat (n + ((k + 1 : Nat) : Int)).toNat = (if (n + ((k + 1 : Nat) : Int)).toNat ≤ n.toNat then (PL 36 (n.toNat - (n + ((k + 1 : Nat) : Int)).toNat) (n + ((k + 1 : Nat) : Int)).toNat).map (fun l => (((n + ((k + 1 : Nat) : Int)).toNat : Nat) : Int) :: l) else []) ++ PL 36 n.toNat ((n + ((k + 1 : Nat) : Int)).toNat - 1) := PL_s (f := 36) (by omega) (by omega)
    rw [e, if_neg (by omega), List.nil_append, PL_f 36 37 n.toNat ((n + ((k + 1 : Nat) : Int)).toNat - 1) (by omega) (by omega), show (n + ((k + 1 : Nat) : Int)).toNat - 1 = (n + (k : Int)).toNat by omega]
theorem PLQ_m {n m : Int} (hn : 0 < n) (hm : n ≤ m) (hm2 : m ≤ 18) : PLQ n m = PLQ n n := by
  have e := PLQ_k hn (by omega) (m - n).toNat (by omega)
  rw [show n + (((m - n).toNat : Nat) : Int) = m by omega] at e
  exact e
theorem PLQ_N {N s : Int} (hN : 1 ≤ N ∧ N ≤ 18) (h0 : 0 ≤ s) (h1 : s < pN N) : (PLQ N N)[s.toNat]? = some (hpl N s) := by
  rw [← PLQ_m (m := 18) (by omega) (by omega) (by decide)]
  exact PL_at hN h0 h1
theorem PLQ_l {N : Int} (hN : 1 ≤ N ∧ N ≤ 18) : (((PLQ N N).length : Nat) : Int) = pN N := by
  rw [← PLQ_m (m := 18) (by omega) (by omega) (by decide)]
  have h := (PLc N.toNat (by omega) (by omega)).2
  rw [Int.toNat_of_nonneg (by omega)] at h
  exact h
end TBc
/-! the reference's rows, as they are laid -/
section TBd
variable {Z Z1 Z2 Z3 : xZ}
/-- the first n numbers of a row -/
def pfx (a : Int → Int) : Nat → List Int
  | 0 => []
  | n + 1 => pfx a n ++ [a (n : Int)]
theorem pfx_l (a : Int → Int) : ∀ n, (pfx a n).length = n
  | 0 => rfl
  | n + 1 => by show (pfx a n ++ [a (n : Int)]).length = n + 1; rw [gD_l, pfx_l a n]
theorem pfx_c {a b : Int → Int} : ∀ n : Nat, (∀ j : Nat, j < n → a (j : Int) = b (j : Int)) → pfx a n = pfx b n
  | 0, _ => rfl
  | n + 1, h => by
    show pfx a n ++ [a (n : Int)] = pfx b n ++ [b (n : Int)]
    rw [pfx_c n (fun j hj => h j (by omega)), h n (Nat.lt_succ_self n)]
theorem pfx_g (a : Int → Int) : ∀ (n : Nat) (j : Nat), j < n → (pfx a n).getD j 0 = a (j : Int)
  | 0, j, h => absurd h (Nat.not_lt_zero j)
  | n + 1, j, h => by
    show (pfx a n ++ [a (n : Int)]).getD j 0 = a (j : Int)
    by_cases e : j < n
    · rw [gD_a _ _ _ (by rw [pfx_l]; exact e)]; exact pfx_g a n j e
    · have ej : j = (pfx a n).length := by rw [pfx_l]; omega
      have e2 : (pfx a n).length = n := pfx_l a n
      rw [ej, gD_e, e2]
/-- rows laid from m0 on -/
def RWS (Z : xZ) (m0 : Int) (u : List (List Int)) : Prop := ∀ (j : Nat) (l : List Int), u[j]? = some l → ∀ k : Int, 0 ≤ k → k < 18 → Z 61 (18 * (m0 + (j : Int)) + k) = l.getD k.toNat 0
theorem RWS_0 {m0 : Int} : RWS Z m0 [] := fun j l h => by cases h
theorem RWS_c {m0 : Int} {u : List (List Int)} (h : RWS Z m0 u) (e : ∀ i : Int, i < 18 * (m0 + ((u.length : Nat) : Int)) → Z2 61 i = Z 61 i) : RWS Z2 m0 u := fun j l hj k k0 k1 => by
  have hl : j < u.length := by
    by_cases c : j < u.length
    · exact c
    · rw [List.getElem?_eq_none (by omega)] at hj; cases hj
  rw [e _ (by omega)]; exact h j l hj k k0 k1
theorem RWS_a {m0 m1 : Int} {u v : List (List Int)} (hu : RWS Z m0 u) (hv : RWS Z m1 v) (e : m1 = m0 + ((u.length : Nat) : Int)) : RWS Z m0 (u ++ v) := fun j l hj k k0 k1 => by
  by_cases c : j < u.length
  · rw [List.getElem?_append_left c] at hj
    exact hu j l hj k k0 k1
  · rw [List.getElem?_append_right (by omega)] at hj
    have q := hv (j - u.length) l hj k k0 k1
    rw [show m0 + (j : Int) = m1 + (((j - u.length : Nat)) : Int) by omega]
    exact q
/-- one row as far as it is laid -/
def RW1 (Z Z2 : xZ) (m0 n k : Int) : Prop := (∀ q : Int, 0 ≤ q → q < k → Z2 61 (18 * m0 + q) = if q < n then Z 63 q else 0) ∧ (∀ i : Int, i < 18 * m0 → Z2 61 i = Z 61 i)
theorem rw1_0 {m0 n : Int} (e : ∀ i, Z2 61 i = Z 61 i) : RW1 Z Z2 m0 n 0 := ⟨fun q a b => absurd b (by omega), fun i _ => e i⟩
theorem rw1_s {m0 n k v : Int} (h : RW1 Z Z2 m0 n k) (hE : Z3 = up Z2 61 (18 * m0 + k) v) (k0 : 0 ≤ k) (hy : k < n → v = Z 63 k) (hn : ¬ k < n → v = 0) : RW1 Z Z3 m0 n (k + 1) := by
  refine ⟨fun q a b => ?_, fun i hi => (up_ni hE (by omega)).trans (h.2 i hi)⟩
  by_cases e : q = k
  · subst e
    rw [up_at hE]
    by_cases c : q < n
    · rw [if_pos c]; exact hy c
    · rw [if_neg c]; exact hn c
  · rw [up_ni hE (by omega)]; exact h.1 q a (by omega)
theorem rw1_e {m0 n k : Int} (h : RW1 Z Z2 m0 n k) (hk : 18 ≤ k) (n0 : 0 ≤ n) : RWS Z2 m0 [pfx (Z 63) n.toNat] := fun j l hj q q0 q1 => by
  match j, hj with
  | 0, hj =>
    have hj : some (pfx (Z 63) n.toNat) = some l := hj
    cases hj
    rw [show 18 * (m0 + ((0 : Nat) : Int)) + q = 18 * m0 + q by omega, h.1 q q0 (by omega)]
    by_cases c : q < n
    · rw [if_pos c, pfx_g _ _ _ (by omega), Int.toNat_of_nonneg q0]
    · rw [if_neg c, gD_o _ _ (by rw [pfx_l]; omega)]
  | j + 1, hj => cases hj
/-- what goesAll() leaves -/
def GAp (Z Z2 : xZ) (left most n : Int) : Prop := Z2 56 18 = Z 56 18 + (((PLQ left most).length : Nat) : Int) ∧ RWS Z2 (Z 56 18) ((PLQ left most).map (fun l => pfx (Z 63) n.toNat ++ l)) ∧ (∀ i : Int, i < 18 * Z 56 18 → Z2 61 i = Z 61 i) ∧ (∀ i : Int, i < n → Z2 63 i = Z 63 i)
theorem ga_0 {most n k : Int} (h : RW1 Z Z1 (Z 56 18) n k) (hk : 18 ≤ k) (n0 : 0 ≤ n) (e61 : ∀ i, Z2 61 i = Z1 61 i) (e63 : ∀ i, Z2 63 i = Z 63 i) (e : Z2 56 18 = Z 56 18 + 1) : GAp Z Z2 0 most n := by
  refine ⟨by rw [PLQ_0, e]; rfl, ?_, fun i hi => (e61 i).trans (h.2 i hi), fun i _ => e63 i⟩
  rw [PLQ_0]
  show RWS Z2 (Z 56 18) [pfx (Z 63) n.toNat ++ []]
  rw [List.append_nil]
  exact RWS_c (rw1_e h hk n0) (fun i _ => e61 i)
/-- on the way: what is laid, what is left to lay -/
def GL (Z Z2 : xZ) (left most n its : Int) : Prop := ∃ u : List (List Int), u ++ (PLQ left its).map (fun l => pfx (Z 63) n.toNat ++ l) = (PLQ left most).map (fun l => pfx (Z 63) n.toNat ++ l) ∧ Z2 56 18 = Z 56 18 + ((u.length : Nat) : Int) ∧ RWS Z2 (Z 56 18) u ∧ (∀ i : Int, i < 18 * Z 56 18 → Z2 61 i = Z 61 i) ∧ (∀ i : Int, i < n → Z2 63 i = Z 63 i)
theorem gl_0 {left most n its : Int} (hl : 0 < left ∧ left ≤ 18) (hm : most ≤ 18) (hi : (most < left → its = most) ∧ (left ≤ most → its = left)) (m0 : 0 ≤ most) : GL Z Z left most n its := by
  refine ⟨[], ?_, by show Z 56 18 = Z 56 18 + 0; omega, RWS_0, fun i _ => rfl, fun i _ => rfl⟩
  rw [List.nil_append]
  by_cases c : most < left
  · rw [hi.1 c]
  · rw [hi.2 (by omega), PLQ_m hl.1 (by omega) hm]
theorem gl_e {left most n its : Int} (h : GL Z Z2 left most n its) (hl : 0 < left) (hi : its ≤ 0) : GAp Z Z2 left most n := by
  obtain ⟨u, h1, h2, h3, h4, h5⟩ := h
  rw [PLQ_z hl hi] at h1
  have h1 : u ++ [] = (PLQ left most).map (fun l => pfx (Z 63) n.toNat ++ l) := h1
  rw [List.append_nil] at h1
  subst h1
  rw [List.length_map] at h2
  exact ⟨h2, h3, h4, h5⟩
theorem gl_s {left most n its : Int} (h : GL Z Z1 left most n its) (hl : 0 < left ∧ left ≤ 18) (hi : 0 < its ∧ its ≤ left) (n0 : 0 ≤ n) (hE : Z2 = up Z1 63 n its) (hg : GAp Z2 Z3 (left - its) its (n + 1)) : GL Z Z3 left most n (its + (-1)) := by
  obtain ⟨u, h1, h2, h3, h4, h5⟩ := h
  obtain ⟨g1, g2, g3, g4⟩ := hg
  have e18 : Z2 56 18 = Z1 56 18 := up_nk hE rfl
  have e61 : ∀ i, Z2 61 i = Z1 61 i := fun i => up_nk hE rfl
  have ep : pfx (Z2 63) (n + 1).toNat = pfx (Z 63) n.toNat ++ [its] := by
    rw [show (n + 1).toNat = n.toNat + 1 by omega]
    show pfx (Z2 63) n.toNat ++ [Z2 63 ((n.toNat : Nat) : Int)] = _
    rw [Int.toNat_of_nonneg n0, up_at hE, pfx_c (b := Z 63) n.toNat (fun j hj => (up_ni hE (by omega)).trans (h5 _ (by omega)))]
  have em : (PLQ (left - its) its).map (fun l => pfx (Z2 63) (n + 1).toNat ++ l) = ((PLQ (left - its) its).map (fun l => its :: l)).map (fun l => pfx (Z 63) n.toNat ++ l) := by
    rw [List.map_map]
    refine List.map_congr_left (fun l _ => ?_)
    show pfx (Z2 63) (n + 1).toNat ++ l = pfx (Z 63) n.toNat ++ (its :: l)
    rw [ep, List.append_assoc]; rfl
  rw [em] at g2
  refine ⟨u ++ ((PLQ (left - its) its).map (fun l => its :: l)).map (fun l => pfx (Z 63) n.toNat ++ l), ?_, ?_, ?_, fun i hi => ?_, fun i hi => ?_⟩
  · rw [← h1, PLQ_s hl.1 hl.2 hi.1 hi.2, List.map_append, List.append_assoc, show its - 1 = its + (-1) by omega]
  · rw [List.length_append, List.length_map, List.length_map]
    omega
  · refine RWS_a (RWS_c h3 (fun i hi => (g3 i (by omega)).trans (e61 i))) g2 (by omega)
  · rw [g3 i (by omega), e61]; exact h4 i hi
  · rw [g4 i (by omega), up_ni hE (by omega)]; exact h5 i hi
theorem ga_N {N : Int} (hN : 1 ≤ N ∧ N ≤ 18) (h0 : Z 56 18 = 0) (h : GAp Z Z2 N N 0) : RTB Z2 N := fun t k t0 t1 k0 k1 => by
  obtain ⟨_, g2, _, _⟩ := h
  have e : ((PLQ N N).map (fun l => pfx (Z 63) (0 : Int).toNat ++ l))[t.toNat]? = some (hpl N t) := by
    rw [List.getElem?_map, PLQ_N hN t0 t1]; rfl
  have q := g2 t.toNat (hpl N t) e k k0 k1
  rw [h0, show 18 * ((0 : Int) + ((t.toNat : Nat) : Int)) + k = 18 * t + k by omega] at q
  exact q
end TBd
