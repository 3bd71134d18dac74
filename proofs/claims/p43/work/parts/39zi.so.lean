/-! heaps put in their order, their number found by halves -/
section SOa
theorem cge_c {a b : Int → Int} {v : Int} : ∀ n : Nat, (∀ j : Nat, j < n → a (j : Int) = b (j : Int)) → cge a v n = cge b v n
  | 0, _ => rfl
  | n + 1, h => by
    show (if v ≤ a (n : Int) then 1 else 0) + cge a v n = (if v ≤ b (n : Int) then 1 else 0) + cge b v n
    rw [h n (Nat.lt_succ_self n), cge_c n (fun j hj => h j (by omega))]
theorem cge_sw {a b : Int → Int} {v : Int} {p : Nat} : ∀ n : Nat, p + 2 ≤ n → (∀ j : Nat, j < n → ¬ j = p → ¬ j = p + 1 → a (j : Int) = b (j : Int)) → a (p : Int) = b ((p + 1 : Nat) : Int) → a ((p + 1 : Nat) : Int) = b (p : Int) → cge a v n = cge b v n
  | 0, h, _, _, _ => absurd h (by omega)
  | n + 1, h, e, e1, e2 => by
    by_cases c : p + 2 ≤ n
    · show (if v ≤ a (n : Int) then 1 else 0) + cge a v n = (if v ≤ b (n : Int) then 1 else 0) + cge b v n
      rw [e n (Nat.lt_succ_self n) (by omega) (by omega), cge_sw n c (fun j hj => e j (by omega)) e1 e2]
    · have en : n = p + 1 := by omega
      subst en
      show (if v ≤ a ((p + 1 : Nat) : Int) then 1 else 0) + ((if v ≤ a (p : Int) then 1 else 0) + cge a v p) = (if v ≤ b ((p + 1 : Nat) : Int) then 1 else 0) + ((if v ≤ b (p : Int) then 1 else 0) + cge b v p)
      rw [e1, e2, cge_c p (fun j hj => e j (by omega) (by omega) (by omega))]
      exact Int.add_left_comm _ _ _
theorem cge_b {a : Int → Int} {v : Int} : ∀ n : Nat, cge a v n ≤ (n : Int)
  | 0 => Int.le_refl _
  | n + 1 => by
    have h := cge_b (a := a) (v := v) n
    show (if v ≤ a (n : Int) then 1 else 0) + cge a v n ≤ ((n + 1 : Nat) : Int)
    split <;> omega
theorem cge_f {a : Int → Int} {v : Int} : ∀ n : Nat, cge a v n = (n : Int) → ∀ j : Nat, j < n → v ≤ a (j : Int)
  | 0, _, j, h => absurd h (Nat.not_lt_zero j)
  | n + 1, e, j, h => by
    have b := cge_b (a := a) (v := v) n
    have e : (if v ≤ a (n : Int) then 1 else 0) + cge a v n = ((n + 1 : Nat) : Int) := e
    by_cases c : v ≤ a (n : Int)
    · rw [if_pos c] at e
      by_cases c2 : j < n
      · exact cge_f n (by omega) j c2
      · rw [show j = n by omega]; exact c
    · rw [if_neg c] at e
      omega
end SOa
section SOb
variable {Z0 Z Z2 : xZ}
def SOT (Z : xZ) (k : Int) : Prop := ∀ p q : Int, 0 ≤ p → p ≤ q → q < k → Z 62 q ≤ Z 62 p
def HOL (Z : xZ) (k i x : Int) : Prop := (∀ p q : Int, 0 ≤ p → p ≤ q → q ≤ k → ¬ p = i → ¬ q = i → Z 62 q ≤ Z 62 p) ∧ (∀ q : Int, i < q → q ≤ k → Z 62 q < x)
def HCG (Z0 Z : xZ) (i x : Int) : Prop := ∀ v : Int, cge (fun j => if j = i then x else Z 62 j) v 20 = cge (Z0 62) v 20
def ECG (Z0 Z : xZ) : Prop := ∀ v : Int, cge (Z 62) v 20 = cge (Z0 62) v 20
theorem ecg_0 : ECG Z Z := fun _ => rfl
theorem so_0 : SOT Z 1 := fun p q a b c => by rw [show q = p by omega]; exact Int.le_refl _
theorem ho_0 {k : Int} (h : SOT Z k) : HOL Z k k (Z 62 k) := ⟨fun p q a b c _ e => h p q a b (by omega), fun q a b => absurd a (by omega)⟩
theorem hc_0 {k : Int} (h : ECG Z0 Z) : HCG Z0 Z k (Z 62 k) := fun v => by
  rw [← h v]
  refine cge_c 20 (fun j _ => ?_)
  show (if (j : Int) = k then Z 62 k else Z 62 (j : Int)) = Z 62 (j : Int)
  by_cases e : (j : Int) = k
  · rw [if_pos e, e]
  · rw [if_neg e]
theorem ho_s {k i x y : Int} (h : HOL Z k i x) (h0 : 0 < i) (h1 : i ≤ k) (hx : Z 62 (i - 1) < x) (hE : Z2 = up Z 62 i y) (hy : y = Z 62 (i - 1)) : HOL Z2 k (i + (-1)) x := by
  rw [show i + (-1) = i - 1 by omega]
  obtain ⟨ha, hb⟩ := h
  have ua : Z2 62 i = Z 62 (i - 1) := (up_at hE).trans hy
  have un : ∀ q : Int, ¬ q = i → Z2 62 q = Z 62 q := fun q e => up_ni hE e
  refine ⟨fun p q a b c e1 e2 => ?_, fun q a b => ?_⟩
  · by_cases cp : p = i
    · by_cases cq : q = i
      · rw [cp, cq]; exact Int.le_refl _
      · rw [cp, ua, un q cq]; exact ha (i - 1) q (by omega) (by omega) c (by omega) cq
    · by_cases cq : q = i
      · rw [cq, ua, un p cp]; exact ha p (i - 1) a (by omega) (by omega) cp (by omega)
      · rw [un q cq, un p cp]; exact ha p q a b c cp cq
  · by_cases cq : q = i
    · rw [cq, ua]; exact hx
    · rw [un q cq]; exact hb q (by omega) b
theorem hc_s {i x y : Int} (h : HCG Z0 Z i x) (h0 : 0 < i) (h1 : i ≤ 19) (hE : Z2 = up Z 62 i y) (hy : y = Z 62 (i - 1)) : HCG Z0 Z2 (i + (-1)) x := fun v => by
  rw [← h v, show i + (-1) = i - 1 by omega]
  have ua : Z2 62 i = Z 62 (i - 1) := (up_at hE).trans hy
  have ei : (((i - 1).toNat + 1 : Nat) : Int) = i := by omega
  have ej : (((i - 1).toNat : Nat) : Int) = i - 1 := by omega
  refine cge_sw (p := (i - 1).toNat) 20 (by omega) (fun j hj e1 e2 => ?_) ?_ ?_
  · show (if (j : Int) = i - 1 then x else Z2 62 (j : Int)) = (if (j : Int) = i then x else Z 62 (j : Int))
    rw [if_neg (by omega), if_neg (by omega)]
    exact up_ni hE (by omega)
  · show (if (((i - 1).toNat : Nat) : Int) = i - 1 then x else Z2 62 (((i - 1).toNat : Nat) : Int)) = (if (((i - 1).toNat + 1 : Nat) : Int) = i then x else Z 62 (((i - 1).toNat + 1 : Nat) : Int))
    rw [if_pos ej, if_pos ei]
  · show (if (((i - 1).toNat + 1 : Nat) : Int) = i - 1 then x else Z2 62 (((i - 1).toNat + 1 : Nat) : Int)) = (if (((i - 1).toNat : Nat) : Int) = i then x else Z 62 (((i - 1).toNat : Nat) : Int))
    rw [if_neg (by omega), if_neg (by omega), ei, ej, ua]
theorem ho_e {k i x : Int} (h : HOL Z k i x) (hc : i ≤ 0 ∨ x ≤ Z 62 (i - 1)) (h0 : 0 ≤ i) (h1 : i ≤ k) (hE : Z2 = up Z 62 i x) : SOT Z2 (k + 1) := fun p q a b c => by
  obtain ⟨ha, hb⟩ := h
  have ua : Z2 62 i = x := up_at hE
  have un : ∀ q : Int, ¬ q = i → Z2 62 q = Z 62 q := fun q e => up_ni hE e
  by_cases cp : p = i
  · by_cases cq : q = i
    · rw [cp, cq]; exact Int.le_refl _
    · rw [cp, ua, un q cq]; exact Int.le_of_lt (hb q (by omega) (by omega))
  · by_cases cq : q = i
    · rw [cq, ua, un p cp]
      have hx : x ≤ Z 62 (i - 1) := hc.resolve_left (by omega)
      exact Int.le_trans hx (ha p (i - 1) a (by omega) (by omega) cp (by omega))
    · rw [un q cq, un p cp]; exact ha p q a b (by omega) cp cq
theorem hc_e {i x : Int} (h : HCG Z0 Z i x) (hE : Z2 = up Z 62 i x) : ECG Z0 Z2 := fun v => by
  rw [← h v]
  refine cge_c 20 (fun j _ => ?_)
  show Z2 62 (j : Int) = (if (j : Int) = i then x else Z 62 (j : Int))
  by_cases e : (j : Int) = i
  · rw [if_pos e, e]; exact up_at hE
  · rw [if_neg e]; exact up_ni hE e
/-- rows of stands are in order -/
def dsl : List Int → Prop
  | [] => True
  | a :: l => (∀ b ∈ l, b ≤ a) ∧ dsl l
theorem PL_d : ∀ (f n m : Nat) (l : List Int), l ∈ PL f n m → dsl l
  | 0, _, _, l, h => by cases h
  | f + 1, n, m, l, h => by
    by_cases hn : n = 0
    · rw [show PL (f + 1) n m = [[]] from if_pos hn] at h
      rw [List.mem_singleton.mp h]; trivial
    · by_cases hm : m = 0
      · rw [show PL (f + 1) n m = [] from (if_neg hn).trans (if_pos hm)] at h; cases h
      · rw [PL_s hn hm] at h
        rcases List.mem_append.mp h with h | h
        · by_cases c : m ≤ n
          · rw [if_pos c] at h
            obtain ⟨r, hr, rfl⟩ := List.mem_map.mp h
            exact ⟨fun b hb => (PL_b f (n - m) m r hr b hb).2, PL_d f (n - m) m r hr⟩
          · rw [if_neg c] at h; cases h
        · exact PL_d f n (m - 1) l h
theorem gD_m : ∀ (l : List Int) (j : Nat), j < l.length → l.getD j 0 ∈ l
  | [], j, h => absurd h (Nat.not_lt_zero j)
  | a :: l, 0, _ => List.mem_cons_self
  | a :: l, j + 1, h => List.mem_cons_of_mem _ (gD_m l j (Nat.lt_of_succ_lt_succ h))
theorem gD_p {l : List Int} (h : ∀ a ∈ l, 0 ≤ a) (j : Nat) : 0 ≤ l.getD j 0 := by
  by_cases c : j < l.length
  · exact h _ (gD_m l j c)
  · rw [gD_o l j (by omega)]; exact Int.le_refl _
theorem dsl_g : ∀ {l : List Int}, dsl l → (∀ a ∈ l, 0 ≤ a) → ∀ i j : Nat, i ≤ j → l.getD j 0 ≤ l.getD i 0
  | [], _, _, _, _, _ => Int.le_refl _
  | a :: l, _, _, 0, 0, _ => Int.le_refl _
  | a :: l, h, p, 0, j + 1, _ => by
    show l.getD j 0 ≤ a
    by_cases c : j < l.length
    · exact h.1 _ (gD_m l j c)
    · rw [gD_o l j (by omega)]; exact p a List.mem_cons_self
  | a :: l, _, _, i + 1, 0, h => absurd h (Nat.not_succ_le_zero _)
  | a :: l, h, p, i + 1, j + 1, hij => dsl_g h.2 (fun b hb => p b (List.mem_cons_of_mem _ hb)) i j (Nat.le_of_succ_le_succ hij)
theorem hpl_d {N s : Int} (hN : 1 ≤ N ∧ N ≤ 18) (h0 : 0 ≤ s) (h1 : s < pN N) : dsl (hpl N s) := PL_d _ _ _ _ (List.mem_of_getElem? (PL_at hN h0 h1))
theorem hpl_p {N s : Int} (hN : 1 ≤ N ∧ N ≤ 18) (h0 : 0 ≤ s) (h1 : s < pN N) : ∀ a ∈ hpl N s, 0 ≤ a := fun a ha => Int.le_trans (by decide) ((hpl_l hN h0 h1).2.2 a ha)
theorem hpk_d {N s : Int} (hN : 1 ≤ N ∧ N ≤ 18) (h0 : 0 ≤ s) (h1 : s < pN N) (n : Nat) : dsc (hpk N s) n := fun i j hij _ => by
  unfold hpk
  rw [Int.toNat_natCast, Int.toNat_natCast]
  exact dsl_g (hpl_d hN h0 h1) (hpl_p hN h0 h1) i j hij
theorem hpk_p {N s : Int} (hN : 1 ≤ N ∧ N ≤ 18) (h0 : 0 ≤ s) (h1 : s < pN N) (k : Int) : 0 ≤ hpk N s k := gD_p (hpl_p hN h0 h1) _
/-- what lies there are the heaps of a stand, in any order -/
def NPR (Z : xZ) (N s : Int) : Prop := (1 ≤ N ∧ N ≤ 18) ∧ (0 ≤ s ∧ s < pN N) ∧ (∀ j : Nat, j < 20 → 0 ≤ Z 62 (j : Int)) ∧ ∀ v : Int, 1 ≤ v → cge (Z 62) v 20 = cge (hpk N s) v 20
def HS (Z : xZ) (N s : Int) : Prop := ∀ k : Int, 0 ≤ k → k < 18 → Z 62 k = hpk N s k
theorem npr_s {N s k : Int} (h : NPR Z0 N s) (hs : SOT Z k) (hk : 20 ≤ k) (he : ECG Z0 Z) : HS Z N s := by
  obtain ⟨hN, hs2, hp, hc⟩ := h
  have full : cge (Z 62) 0 20 = ((20 : Nat) : Int) := by
    rw [he 0]
    exact cge_all 20 (fun j hj => hp j hj)
  have u := dsc_u (a := Z 62) (b := hpk N s) (n := 20) (fun i j hij hj => hs (i : Int) (j : Int) (by omega) (by omega) (by omega)) (hpk_d hN hs2.1 hs2.2 20) (fun v hv => (he v).trans (hc v hv)) (fun j hj => cge_f 20 full j hj) (fun j _ => hpk_p hN hs2.1 hs2.2 _)
  intro q q0 q1
  have := u q.toNat (by omega)
  rw [Int.toNat_of_nonneg q0] at this
  exact this
/-- isBehind() -/
def EQK (Z : xZ) (s k : Int) : Prop := ∀ j : Int, 0 ≤ j → j < k → Z 62 j = Z 61 (18 * s + j)
theorem eqk_0 {s : Int} : EQK Z s 0 := fun j a b => absurd b (by omega)
theorem eqk_s {s k : Int} (h : EQK Z s k) (e : Z 62 k = Z 61 (18 * s + k)) : EQK Z s (k + 1) := fun j a b => by
  by_cases c : j = k
  · rw [c]; exact e
  · exact h j a (by omega)
theorem lx_n {s k z : Int} (h : EQK Z s k) (hk : 18 ≤ k) (hz : z = 0) : z = 1 ↔ lxb (Z 62) (fun k => Z 61 (18 * s + k)) :=
  ⟨fun e => absurd e (by omega), fun q => absurd q (lxb_i (fun j a b => h j a (by omega)))⟩
theorem lx_y {s k z : Int} (h : EQK Z s k) (k0 : 0 ≤ k) (k1 : k < 18) (hn : ¬ Z 62 k = Z 61 (18 * s + k)) (hz : (Z 62 k < Z 61 (18 * s + k) → z = 1) ∧ (Z 61 (18 * s + k) ≤ Z 62 k → z = 0)) : z = 1 ↔ lxb (Z 62) (fun k => Z 61 (18 * s + k)) := by
  constructor
  · intro e
    exact ⟨k, k0, k1, fun j a b => h j a b, by show Z 62 k < Z 61 (18 * s + k); omega⟩
  · intro q
    obtain ⟨j, j0, j1, j2, j3⟩ := q
    have j3 : Z 62 j < Z 61 (18 * s + j) := j3
    by_cases c : j < k
    · have := h j j0 c; omega
    · by_cases c2 : k < j
      · exact absurd (j2 k k0 c2) hn
      · rw [show j = k by omega] at j3
        exact hz.1 j3
theorem so_m {N g m z : Int} (hr : RTB Z N) (hs : HS Z N g) (hN : 1 ≤ N ∧ N ≤ 18) (g0 : 0 ≤ g) (g1 : g < pN N) (m0 : 0 ≤ m) (m1 : m < pN N) (hz : z = 1 ↔ lxb (Z 62) (fun k => Z 61 (18 * m + k))) : z = 1 ↔ m < g := by
  have e : lxb (Z 62) (fun k => Z 61 (18 * m + k)) ↔ lxb (Z 62) (hpk N m) :=
    ⟨fun q => lxb_c (fun _ _ _ => rfl) (fun k a b => (hr m k m0 m1 a b).symm) q, fun q => lxb_c (fun _ _ _ => rfl) (fun k a b => hr m k m0 m1 a b) q⟩
  exact hz.trans (e.trans (hp_mid hN g0 g1 m0 m1 hs))
end SOb
/-! counts by sizes, counts from a size on -/
section SOc
def cgl (v : Int) : List Int → Int
  | [] => 0
  | a :: l => (if v ≤ a then 1 else 0) + cgl v l
def cgs (f : Int → Int) (v : Int) : Nat → Int
  | 0 => 0
  | m + 1 => (if v ≤ ((m + 1 : Nat) : Int) then f ((m + 1 : Nat) : Int) else 0) + cgs f v m
theorem cgs_add (f g : Int → Int) (v : Int) : ∀ m, cgs (fun u => f u + g u) v m = cgs f v m + cgs g v m
  | 0 => rfl
  | m + 1 => by
    show (if v ≤ ((m + 1 : Nat) : Int) then f ((m + 1 : Nat) : Int) + g ((m + 1 : Nat) : Int) else 0) + cgs (fun u => f u + g u) v m = (if v ≤ ((m + 1 : Nat) : Int) then f ((m + 1 : Nat) : Int) else 0) + cgs f v m + ((if v ≤ ((m + 1 : Nat) : Int) then g ((m + 1 : Nat) : Int) else 0) + cgs g v m)
    rw [cgs_add f g v m]
    split <;> omega
theorem cgs_c {f g : Int → Int} {v : Int} : ∀ m : Nat, (∀ u : Int, 1 ≤ u → u ≤ (m : Int) → f u = g u) → cgs f v m = cgs g v m
  | 0, _ => rfl
  | m + 1, h => by
    show (if v ≤ ((m + 1 : Nat) : Int) then f ((m + 1 : Nat) : Int) else 0) + cgs f v m = (if v ≤ ((m + 1 : Nat) : Int) then g ((m + 1 : Nat) : Int) else 0) + cgs g v m
    rw [h _ (by omega) (by omega), cgs_c m (fun u h1 h2 => h u h1 (by omega))]
theorem cgs_1 {a v : Int} (hv : 1 ≤ v) : ∀ m : Nat, a ≤ (m : Int) → cgs (fun u => if a = u then 1 else 0) v m = if v ≤ a then 1 else 0
  | 0, h => by
    have h : a ≤ 0 := h
    rw [if_neg (by omega)]; rfl
  | m + 1, h => by
    show (if v ≤ ((m + 1 : Nat) : Int) then (if a = ((m + 1 : Nat) : Int) then 1 else 0) else 0) + cgs (fun u => if a = u then 1 else 0) v m = _
    by_cases e : a = ((m + 1 : Nat) : Int)
    · have z : cgs (fun u => if a = u then 1 else 0) v m = cgs (fun _ => 0) v m := cgs_c m (fun u u1 u2 => if_neg (by omega))
      have z0 : ∀ k : Nat, cgs (fun _ => (0 : Int)) v k = 0 := by
        intro k
        induction k with
        | zero => rfl
        | succ k ih =>
          show (if v ≤ ((k + 1 : Nat) : Int) then (0 : Int) else 0) + cgs (fun _ => 0) v k = 0
          rw [ih]; split <;> rfl
      rw [z, z0, if_pos e]
      by_cases c : v ≤ ((m + 1 : Nat) : Int)
      · rw [if_pos c, if_pos (by omega)]; rfl
      · rw [if_neg c, if_neg (by omega)]; rfl
    · rw [if_neg e, cgs_1 hv m (by omega)]
      by_cases c : v ≤ ((m + 1 : Nat) : Int)
      · rw [if_pos c]; omega
      · rw [if_neg c]; omega
theorem cgl_s {v : Int} (hv : 1 ≤ v) : ∀ l : List Int, (∀ a ∈ l, a ≤ 18) → cgl v l = cgs (fun u => ctl u l) v 18
  | [], _ => by
    have z0 : ∀ k : Nat, cgs (fun u => ctl u []) v k = 0 := by
      intro k
      induction k with
      | zero => rfl
      | succ k ih =>
        show (if v ≤ ((k + 1 : Nat) : Int) then (0 : Int) else 0) + cgs (fun u => ctl u []) v k = 0
        rw [ih]; split <;> rfl
    rw [z0]; rfl
  | a :: l, h => by
    show (if v ≤ a then 1 else 0) + cgl v l = cgs (fun u => (if a = u then 1 else 0) + ctl u l) v 18
    rw [cgs_add, cgs_1 hv 18 (h a List.mem_cons_self), cgl_s hv l (fun b hb => h b (List.mem_cons_of_mem _ hb))]
theorem cgl_a (v : Int) : ∀ l r : List Int, cgl v (l ++ r) = cgl v l + cgl v r
  | [], r => by show cgl v r = 0 + cgl v r; omega
  | a :: l, r => by
    show (if v ≤ a then 1 else 0) + cgl v (l ++ r) = (if v ≤ a then 1 else 0) + cgl v l + cgl v r
    rw [cgl_a v l r]; omega
/-- a row that a list tells (nothing behind it) -/
theorem cge_l {v : Int} (hv : 1 ≤ v) {a : Int → Int} : ∀ (n : Nat), cge a v n = cgl v (pfx a n)
  | 0 => rfl
  | n + 1 => by
    show (if v ≤ a (n : Int) then 1 else 0) + cge a v n = cgl v (pfx a n ++ [a (n : Int)])
    rw [cgl_a, cge_l hv n]
    show _ = cgl v (pfx a n) + ((if v ≤ a (n : Int) then 1 else 0) + 0)
    omega
theorem pfx_z {a : Int → Int} {v : Int} (hv : 1 ≤ v) {m : Nat} : ∀ n : Nat, m ≤ n → (∀ j : Nat, m ≤ j → j < n → a (j : Int) = 0) → cge a v n = cge a v m
  | 0, h, _ => by rw [show m = 0 by omega]
  | n + 1, h, hz => by
    by_cases c : m = n + 1
    · rw [c]
    · show (if v ≤ a (n : Int) then 1 else 0) + cge a v n = cge a v m
      rw [hz n (by omega) (Nat.lt_succ_self n), if_neg (by omega), pfx_z hv n (by omega) (fun j h1 h2 => hz j h1 (by omega))]
      omega
/-- the heaps of a stand -/
theorem cge_h {N s v : Int} (hN : 1 ≤ N ∧ N ≤ 18) (h0 : 0 ≤ s) (h1 : s < pN N) (hv : 1 ≤ v) : cge (hpk N s) v 20 = cgl v (hpl N s) := by
  have b := hpl_l hN h0 h1
  rw [pfx_z hv (m := (hpl N s).length) 20 (by omega) (fun j h _ => hpk_o (by unfold hln; omega)), cge_l hv]
  have e : ∀ (l : List Int) (n : Nat), n ≤ l.length → pfx (fun k => l.getD k.toNat 0) n = l.take n := by
    intro l n
    induction n with
    | zero => intro _; rfl
    | succ n ih =>
      intro h
      show pfx (fun k => l.getD k.toNat 0) n ++ [l.getD ((n : Int)).toNat 0] = l.take (n + 1)
      rw [ih (by omega), Int.toNat_natCast, List.take_succ]
      have g : ∀ (l : List Int) (n : Nat), n < l.length → l[n]? = some (l.getD n 0) := by
        intro l
        induction l with
        | nil => intro n h; exact absurd h (Nat.not_lt_zero n)
        | cons a l ih =>
          intro n h
          cases n with
          | zero => rfl
          | succ n => exact ih n (Nat.lt_of_succ_lt_succ h)
      rw [g l n (by omega)]; rfl
  have q := e (hpl N s) (hpl N s).length (Nat.le_refl _)
  rw [List.take_length] at q
  exact congrArg (cgl v) q
theorem hpl_18 {N s : Int} (hN : 1 ≤ N ∧ N ≤ 18) (h0 : 0 ≤ s) (h1 : s < pN N) : ∀ a ∈ hpl N s, a ≤ 18 := fun a ha => by
  have g := lsm_g _ (hpl_l hN h0 h1).2.2 a ha
  rw [hpl_s hN h0 h1] at g
  omega
/-- heaps laid in any order that are a stand's by how many there are of each size -/
theorem npr_l {Z : xZ} {N : Int} {f : Int → Int} {n : Nat} (hN : 1 ≤ N ∧ N ≤ 18) (hn : n ≤ 20) (hz : ∀ j : Nat, n ≤ j → j < 20 → Z 62 (j : Int) = 0) (hb : ∀ a ∈ pfx (Z 62) n, 0 ≤ a ∧ a ≤ 18) (hf : ∀ v : Int, 1 ≤ v → v ≤ 18 → ctl v (pfx (Z 62) n) = f v) (hs : lsm (pfx (Z 62) n) = N) : NPR Z N (nmN N f) := by
  have ee : nmN N f = nmN N (fun v => ctl v (pfx (Z 62) n)) := nmN_c (fun v h1 h2 => (hf v h1 h2).symm)
  rw [ee]
  obtain ⟨q0, q1, q2⟩ := nm_ex (N := N) (f := fun v => ctl v (pfx (Z 62) n)) hN (fun v => ctl_p v _) (by rw [wsm_l _ hb]; exact hs)
  refine ⟨hN, ⟨q0, q1⟩, fun j hj => ?_, fun v hv => ?_⟩
  · by_cases c : j < n
    · have m := gD_m (pfx (Z 62) n) j (by rw [pfx_l]; exact c)
      rw [pfx_g _ _ _ c] at m
      exact (hb _ m).1
    · rw [hz j (by omega) hj]; exact Int.le_refl _
  · rw [pfx_z hv 20 hn hz, cge_l hv, cge_h hN q0 q1 hv, cgl_s hv _ (fun a ha => (hb a ha).2), cgl_s hv _ (hpl_18 hN q0 q1)]
    exact cgs_c 18 (fun u u1 u2 => (q2 u u1 u2).symm)
end SOc
