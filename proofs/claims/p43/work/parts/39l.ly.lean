/-! the class's tables of stands: rows of heaps as lists (the last heap first), the next row, sums of what is laid -/
section LY
variable {B : mx_B} {M : mx_M} {d pc nx tg : Nat} {ls ls2 : mx_L} {rest : List Value} {h : mx_H} {Post : mx_R → Prop}
theorem Ji2bE {z : Int} (hs : mx_Sn B M pc (mx_i2b nx)) (hz : -128 ≤ z ∧ z ≤ 127) (hj : mx_J B M d nx ls (xI z :: rest) h Post) : mx_J B M d pc ls (xI z :: rest) h Post := by
  have e : (Int32.ofInt z).toInt8.toInt32 = Int32.ofInt z := by
    rw [← Int32.toInt_inj, Int8.toInt_toInt32, Int32.toInt_toInt8, ti_I (by omega)]
    exact Int.bmod_eq_of_le (by omega) (by omega)
  exact mx_J.step hs (fun k call => (show k nx ls (.int (Int32.ofInt z).toInt8.toInt32 :: rest) h = _ by rw [e])) hj
noncomputable def fiL (fuel : Nat) : List Int → Int → Int → List Int := Nat.rec (motive := fun _ => List Int → Int → Int → List Int) (fun acc _ _ => acc) (fun _ ih acc most rest => bif Nat.blt acc.length 18 && (decide (0 < rest) && decide (0 < most)) then (bif decide (most < rest) then ih (most :: acc) most (rest - most) else ih (rest :: acc) most (rest - rest)) else acc) fuel
noncomputable def poL (fuel : Nat) : List Int → Int → List Int := Nat.rec (motive := fun _ => List Int → Int → List Int) (fun st _ => st) (fun _ ih st rest => match st with
  | [] => []
  | [a] => fiL 19 [a - 1] (a - 1) rest
  | a :: b :: t => bif decide (a = 1) then ih (b :: t) (rest + 1) else fiL 19 ((a - 1) :: b :: t) (a - 1) rest) fuel
noncomputable def chF (l : List Int) (s : Nat) : List Int := Nat.rec (motive := fun _ => List Int) l (fun _ r => poL 19 r 1) s
theorem chF_s (l : List Int) : ∀ s, chF l (s + 1) = chF (poL 19 l 1) s
  | 0 => rfl
  | s + 1 => by show poL 19 (chF l (s + 1)) 1 = poL 19 (chF (poL 19 l 1) s) 1; rw [chF_s l s]
noncomputable def vb (N : Int) (l : List Int) : Bool := Nat.ble 1 l.length && (Nat.ble l.length 18 && (l.all (fun a => decide (1 ≤ a)) && decide (l.foldr (· + ·) 0 = N)))
noncomputable def ckk (N : Int) (k : Nat) : List Int → Bool := Nat.rec (motive := fun _ => List Int → Bool) (fun _ => true) (fun _ ih l => vb N l && ih (poL 19 l 1)) k
theorem ckk_ok {N : Int} : ∀ (k : Nat) (l : List Int) (s : Nat), s < k → ckk N k l = true → vb N (chF l s) = true
  | 0, _, _, h, _ => absurd h (by omega)
  | k + 1, l, s, hs, hc => by
    have hc : (vb N l && ckk N k (poL 19 l 1)) = true := hc
    rw [Bool.and_eq_true] at hc
    match s, hs with
    | 0, _ => exact hc.1
    | s + 1, hs => rw [chF_s]; exact ckk_ok k _ s (by omega) hc.2
set_option maxRecDepth 100000 in
theorem lyc : ∀ N, N < 19 → 1 ≤ N → ckk ((N : Nat) : Int) (wy (((N : Nat) : Int) * 19 + ((N : Nat) : Int))).toNat [((N : Nat) : Int)] = true := by decide +kernel
theorem vb_at {N s : Int} (hN : 1 ≤ N ∧ N ≤ 18) (h0 : 0 ≤ s) (h1 : s < wy (N * 19 + N)) : vb N (chF [N] s.toNat) = true := by
  have h := lyc N.toNat (by omega) (by omega)
  rw [Int.toNat_of_nonneg (by omega)] at h
  exact ckk_ok _ _ _ (by omega) h
def RV (Z : xZ) : List Int → Prop
  | [] => True
  | a :: t => Z 11 (t.length : Int) = a ∧ RV Z t
theorem RV_c {Z Z2 : xZ} : ∀ {l : List Int}, (∀ i : Int, i < (l.length : Int) → Z2 11 i = Z 11 i) → RV Z l → RV Z2 l
  | [], _, _ => trivial
  | a :: t, h, hr => ⟨(h _ (by show (t.length : Int) < ((t.length + 1 : Nat) : Int); omega)).trans hr.1, RV_c (fun i hi => h i (by show i < ((t.length + 1 : Nat) : Int); omega)) hr.2⟩
theorem RV_at {Z : xZ} : ∀ {l : List Int}, RV Z l → ∀ q : Int, 0 ≤ q → q < (l.length : Int) → Z 11 q ∈ l
  | [], _, q, h0, h1 => by have h1 : q < 0 := h1; omega
  | a :: t, hr, q, h0, h1 => by
    have h1 : q < ((t.length + 1 : Nat) : Int) := h1
    by_cases e : q = (t.length : Int)
    · rw [e, hr.1]; exact List.mem_cons_self
    · exact List.mem_cons_of_mem _ (RV_at hr.2 q h0 (by omega))
def RW (Z : xZ) (N s len : Int) : Prop := ((chF [N] s.toNat).length : Int) = len ∧ RV Z (chF [N] s.toNat)
noncomputable def rwf (Z : xZ) (N s len : Int) : Int := @ite _ (RW Z N s len) (Classical.propDecidable _) 1 0
theorem rwf_y {Z : xZ} {N s len : Int} (h : RW Z N s len) : rwf Z N s len = 1 := by unfold rwf; exact if_pos h
theorem rwf_p {Z : xZ} {N s len : Int} (h : rwf Z N s len = 1) : RW Z N s len := by
  unfold rwf at h
  by_cases e : RW Z N s len
  · exact e
  · rw [if_neg e] at h; omega
theorem rw_c {Z Z2 : xZ} {N s len : Int} (h : ∀ i, Z2 11 i = Z 11 i) : rwf Z2 N s len = rwf Z N s len := by
  unfold rwf RW
  have e : RV Z2 (chF [N] s.toNat) = RV Z (chF [N] s.toNat) := propext ⟨RV_c (fun i _ => (h i).symm), RV_c (fun i _ => h i)⟩
  rw [e]
theorem rwf_0 {Z Z2 : xZ} {N : Int} (hE : Z2 = up Z 11 0 N) : rwf Z2 N 0 1 = 1 := rwf_y ⟨rfl, up_at hE, trivial⟩
theorem vb_l {N : Int} {l : List Int} (h : vb N l = true) : 1 ≤ l.length ∧ l.length ≤ 18 ∧ (∀ a ∈ l, 1 ≤ a) ∧ l.foldr (· + ·) 0 = N := by
  unfold vb at h
  rw [Bool.and_eq_true, Bool.and_eq_true, Bool.and_eq_true] at h
  obtain ⟨h1, h2, h3, h4⟩ := h
  exact ⟨Nat.ble_eq.mp h1, Nat.ble_eq.mp h2, fun a ha => of_decide_eq_true (List.all_eq_true.mp h3 a ha), of_decide_eq_true h4⟩
def NI1 (Z : xZ) (N s i rest : Int) : Prop := ∃ (st : List Int) (f : Nat), RV Z st ∧ (st.length : Int) = i + 1 ∧ poL f st rest = chF [N] (s.toNat + 1) ∧ i < (f : Int) ∧ (∀ a ∈ st, 1 ≤ a)
theorem ni1_0 {Z : xZ} {N s len : Int} (h : rwf Z N s len = 1) (hN : 1 ≤ N ∧ N ≤ 18) (h0 : 0 ≤ s) (h1 : s < wy (N * 19 + N)) : NI1 Z N s (len - 1) 1 ∧ 1 ≤ len ∧ len ≤ 18 := by
  obtain ⟨e1, e2⟩ := rwf_p h
  obtain ⟨v1, v2, v3, v4⟩ := vb_l (vb_at hN h0 h1)
  exact ⟨⟨chF [N] s.toNat, 19, e2, by omega, rfl, by omega, v3⟩, by omega, by omega⟩
theorem ni1_s {Z : xZ} {N s i rest : Int} (h : NI1 Z N s i rest) (hi : 0 < i) (h1 : Z 11 i = 1) : NI1 Z N s (i + (-1)) (rest + 1) := by
  obtain ⟨st, f, r1, r2, r3, r4, r5⟩ := h
  match st, f, r1, r2, r3, r4, r5 with
  | [], _, _, r2, _, _, _ => exact absurd r2 (by show ¬ (0 : Int) = _; omega)
  | [_], _, _, r2, _, _, _ => exact absurd r2 (by show ¬ (1 : Int) = _; omega)
  | _ :: _ :: _, 0, _, _, _, r4, _ => exact absurd r4 (by show ¬ i < (0 : Int); omega)
  | a :: b :: t, f + 1, r1, r2, r3, r4, r5 =>
    have r2 : (((b :: t).length + 1 : Nat) : Int) = i + 1 := r2
    have e : a = 1 := by
      have := r1.1
      rw [show (((b :: t).length : Nat) : Int) = i by omega, h1] at this
      exact this.symm
    have r3 : (bif decide (a = 1) then poL f (b :: t) (rest + 1) else fiL 19 ((a - 1) :: b :: t) (a - 1) rest) = chF [N] (s.toNat + 1) := r3
    rw [decide_eq_true e] at r3
    exact ⟨b :: t, f, r1.2, by omega, r3, by omega, fun q hq => r5 q (List.mem_cons_of_mem _ hq)⟩
def NI2 (Z : xZ) (N s i most rest : Int) : Prop := ∃ (st : List Int) (f : Nat), RV Z st ∧ (st.length : Int) = i ∧ fiL f st most rest = chF [N] (s.toNat + 1) ∧ 18 ≤ i + (f : Int)
theorem ni1_p {Z : xZ} {N s i rest : Int} (h : NI1 Z N s i rest) (h0 : 0 ≤ i) : 1 ≤ Z 11 i := by
  obtain ⟨st, f, r1, r2, r3, r4, r5⟩ := h
  match st, r1, r2, r5 with
  | [], _, r2, _ => have r2 : (0 : Int) = i + 1 := r2; exact absurd r2 (by omega)
  | a :: t, r1, r2, r5 =>
    have r2 : ((t.length + 1 : Nat) : Int) = i + 1 := r2
    have := r1.1
    rw [show ((t.length : Nat) : Int) = i by omega] at this
    rw [this]; exact r5 a List.mem_cons_self
theorem ni2_0 {Z Z2 : xZ} {N s i rest : Int} (h : NI1 Z N s i rest) (hc : i = 0 ∨ ¬ Z 11 i = 1) (h0 : 0 ≤ i) (hE : Z2 = up Z 11 i (Z 11 i - 1)) : NI2 Z2 N s (i + 1) (Z2 11 i) rest := by
  obtain ⟨st, f, r1, r2, r3, r4, r5⟩ := h
  have ua := up_at hE
  match st, f, r1, r2, r3, r4, r5 with
  | [], _, _, r2, _, _, _ => have r2 : (0 : Int) = i + 1 := r2; exact absurd r2 (by omega)
  | _ :: _, 0, _, _, _, r4, _ => exact absurd r4 (by show ¬ i < (0 : Int); omega)
  | [a], f + 1, r1, r2, r3, r4, r5 =>
    have r2 : (1 : Int) = i + 1 := r2
    have e : Z 11 i = a := by have := r1.1; rw [← this, show i = (([] : List Int).length : Int) by show i = 0; omega]
    refine ⟨[a - 1], 19, ⟨?_, trivial⟩, r2, ?_, by show (18 : Int) ≤ i + 1 + 19; omega⟩
    · show Z2 11 0 = a - 1
      rw [show (0 : Int) = i by omega, ua, e]
    · rw [ua, e]; exact r3
  | a :: b :: t, f + 1, r1, r2, r3, r4, r5 =>
    have r2 : (((b :: t).length + 1 : Nat) : Int) = i + 1 := r2
    have e : Z 11 i = a := by have := r1.1; rw [← this, show i = ((b :: t).length : Int) by omega]
    have r3 : (bif decide (a = 1) then poL f (b :: t) (rest + 1) else fiL 19 ((a - 1) :: b :: t) (a - 1) rest) = chF [N] (s.toNat + 1) := r3
    have hn : ¬ a = 1 := fun q => by rcases hc with hc | hc; (have : 0 ≤ ((t.length : Nat) : Int) := by omega); (have r6 : (((b :: t).length : Nat) : Int) = ((t.length + 1 : Nat) : Int) := rfl); omega; exact hc (e.trans q)
    rw [decide_eq_false hn] at r3
    refine ⟨(a - 1) :: b :: t, 19, ⟨?_, RV_c (fun j hj => up_ni hE (by omega)) r1.2⟩, r2, ?_, by show (18 : Int) ≤ i + 1 + 19; omega⟩
    · rw [show ((b :: t).length : Int) = i by omega, ua, e]
    · rw [ua, e]; exact r3
theorem ni2_s {Z Z2 : xZ} {N s i most rest y : Int} (h : NI2 Z N s i most rest) (h1 : i < 18) (h2 : 0 < rest) (h3 : 0 < most) (hE : Z2 = up Z 11 i y) (hy : y ≤ most ∧ y ≤ rest ∧ (y = most ∨ y = rest)) : NI2 Z2 N s (i + 1) most (rest - Z2 11 i) := by
  obtain ⟨st, f, r1, r2, r3, r4⟩ := h
  have ua := up_at hE
  match f, r3, r4 with
  | 0, _, r4 => have r4 : 18 ≤ i + (0 : Int) := r4; exact absurd r4 (by omega)
  | f + 1, r3, r4 =>
    have r3 : (bif Nat.blt st.length 18 && (decide (0 < rest) && decide (0 < most)) then (bif decide (most < rest) then fiL f (most :: st) most (rest - most) else fiL f (rest :: st) most (rest - rest)) else st) = chF [N] (s.toNat + 1) := r3
    rw [show Nat.blt st.length 18 = true from Nat.ble_eq.mpr (by show st.length + 1 ≤ 18; omega), decide_eq_true h2, decide_eq_true h3] at r3
    have r3 : (bif decide (most < rest) then fiL f (most :: st) most (rest - most) else fiL f (rest :: st) most (rest - rest)) = chF [N] (s.toNat + 1) := r3
    refine ⟨y :: st, f, ⟨by rw [r2, ua], RV_c (fun j hj => up_ni hE (by omega)) r1⟩, by show ((st.length + 1 : Nat) : Int) = i + 1; omega, ?_, by omega⟩
    rw [ua]
    by_cases hm : most < rest
    · rw [decide_eq_true hm] at r3
      rw [show y = most by omega]; exact r3
    · rw [decide_eq_false hm] at r3
      rw [show y = rest by omega]; exact r3
theorem ni2_e {Z : xZ} {N s i most rest : Int} (h : NI2 Z N s i most rest) (hc : 18 ≤ i ∨ rest ≤ 0 ∨ most ≤ 0) (h0 : 0 ≤ s) : rwf Z N (s + 1) i = 1 := by
  obtain ⟨st, f, r1, r2, r3, r4⟩ := h
  have e : st = chF [N] (s.toNat + 1) := by
    match f, r3 with
    | 0, r3 => exact r3
    | f + 1, r3 =>
      have r3 : (bif Nat.blt st.length 18 && (decide (0 < rest) && decide (0 < most)) then (bif decide (most < rest) then fiL f (most :: st) most (rest - most) else fiL f (rest :: st) most (rest - rest)) else st) = chF [N] (s.toNat + 1) := r3
      have hb : (Nat.blt st.length 18 && (decide (0 < rest) && decide (0 < most))) = false := by
        rcases hc with hc | hc | hc
        · rw [show Nat.blt st.length 18 = false from Bool.eq_false_iff.mpr (fun q => by have q : st.length + 1 ≤ 18 := Nat.ble_eq.mp q; omega)]; rfl
        · rw [decide_eq_false (show ¬ 0 < rest by omega)]; simp
        · rw [decide_eq_false (show ¬ 0 < most by omega)]; simp
      rw [hb] at r3
      exact r3
  refine rwf_y ?_
  unfold RW
  rw [show (s + 1).toNat = s.toNat + 1 by omega, ← e]
  exact ⟨r2, r1⟩
def smp (Z : xZ) (k : Int) : Prop := ∀ t p : Int, 0 ≤ t → t < k → 0 ≤ p → p ≤ Z 10 t → (ps Z t p ≤ 18 ∧ (p < Z 10 t → 1 ≤ Z 9 (t * 18 + p)))
theorem smp_0 {Z : xZ} : smp Z 0 := fun t p h0 h1 => absurd h1 (by omega)
theorem ps_cr {Z Z2 : xZ} {t p : Int} (h : ∀ q : Int, 0 ≤ q → q < p → Z2 9 (t * 18 + q) = Z 9 (t * 18 + q)) : ps Z2 t p = ps Z t p := by
  unfold ps
  have : ∀ q : Nat, (q : Int) ≤ p ∨ q = 0 → (Nat.rec (motive := fun _ => Int) 0 (fun q r => r + Z2 9 (t * 18 + (q : Int))) q : Int) = Nat.rec (motive := fun _ => Int) 0 (fun q r => r + Z 9 (t * 18 + (q : Int))) q := by
    intro q
    induction q with
    | zero => intro _; rfl
    | succ q ih =>
      intro hq
      show _ + Z2 9 (t * 18 + (q : Int)) = _ + Z 9 (t * 18 + (q : Int))
      rw [ih (by omega), h q (by omega) (by omega)]
  exact this _ (by omega)
theorem smp_c {Z Z2 : xZ} {k : Int} (h : smp Z k) (h9 : ∀ i, Z2 9 i = Z 9 i) (h10 : ∀ i, Z2 10 i = Z 10 i) : smp Z2 k := fun t p a b c e => by
  rw [h10] at e
  rw [ps_c h9, h10, h9]
  exact h t p a b c e
theorem smp_9 {Z Z2 : xZ} {k g v : Int} (h : smp Z k) (hE : Z2 = up Z 9 g v) (hg : k * 18 ≤ g) (hb : ∀ t, Z 10 t ≤ 18) : smp Z2 k := fun t p a b c e => by
  rw [up_nk hE rfl] at e
  have h18 := hb t
  rw [ps_cr (Z := Z) (fun q q0 q1 => up_ni hE (by omega)), up_nk hE rfl]
  refine ⟨(h t p a b c e).1, fun hp => ?_⟩
  rw [up_ni hE (by omega)]
  exact (h t p a b c e).2 hp
def CPY (Z : xZ) (k i : Int) : Prop := ∀ q : Int, 0 ≤ q → q < i → Z 9 (k * 18 + q) = Z 11 q
theorem cpy_0 {Z : xZ} {k : Int} : CPY Z k 0 := fun q a b => absurd b (by omega)
theorem cpy_s {Z Z2 : xZ} {k i v : Int} (h : CPY Z k i) (hE : Z2 = up Z 9 (k * 18 + i) v) (hv : v = Z 11 i) : CPY Z2 k (i + 1) := fun q a b => by
  rw [up_nk (k := 11) hE rfl]
  by_cases e : q = i
  · rw [e, up_at hE, hv]
  · rw [up_ni hE (by omega)]; exact h q a (by omega)
noncomputable def psR (Z : xZ) (n : Nat) : Int := Nat.rec (motive := fun _ => Int) 0 (fun q r => r + Z 11 (q : Int)) n
theorem psR_l {Z : xZ} : ∀ {l : List Int}, RV Z l → psR Z l.length = l.foldr (· + ·) 0
  | [], _ => rfl
  | a :: t, h => by
    show psR Z t.length + Z 11 (t.length : Int) = a + t.foldr (· + ·) 0
    rw [psR_l h.2, h.1]; omega
theorem psR_m {Z : xZ} {n : Nat} : ∀ j : Nat, (∀ q : Nat, q < n + j → 0 ≤ Z 11 (q : Int)) → psR Z n ≤ psR Z (n + j)
  | 0, _ => Int.le_refl _
  | j + 1, h => by
    have h1 := psR_m (n := n) j (fun q hq => h q (by omega))
    have h2 := h (n + j) (by omega)
    show psR Z n ≤ psR Z (n + j) + Z 11 ((n + j : Nat) : Int)
    omega
theorem ps_R {Z : xZ} {k len : Int} (hc : CPY Z k len) : ∀ n : Nat, (n : Int) ≤ len → ps Z k (n : Int) = psR Z n
  | 0, _ => rfl
  | n + 1, h => by
    have e := ps_s (Z := Z) (t := k) (p := (n : Int)) (by omega)
    have e2 : ((n + 1 : Nat) : Int) = (n : Int) + 1 := by omega
    rw [e2, e, ps_R hc n (by omega), hc n (by omega) (by omega)]; rfl
theorem smp_s {Z Z2 : xZ} {N k len : Int} (h : smp Z k) (hc : CPY Z k len) (hr : rwf Z N k len = 1) (hE : Z2 = up Z 10 k len) (hN : 1 ≤ N ∧ N ≤ 18) (h0 : 0 ≤ k) (h1 : k < wy (N * 19 + N)) : smp Z2 (k + 1) := fun t p a b c e => by
  have h9 : ∀ i, Z2 9 i = Z 9 i := fun i => up_nk hE rfl
  rw [ps_c h9, h9]
  by_cases ht : t = k
  · subst ht
    rw [up_at hE] at e ⊢
    obtain ⟨e1, e2⟩ := rwf_p hr
    obtain ⟨v1, v2, v3, v4⟩ := vb_l (vb_at hN h0 h1)
    have hp : ∀ q : Int, 0 ≤ q → q < len → 1 ≤ Z 11 q := fun q q0 q1 => v3 _ (RV_at e2 q q0 (by omega))
    refine ⟨?_, fun hq => by rw [hc p c hq]; exact hp p c hq⟩
    have h2 := ps_R hc p.toNat (by omega)
    rw [Int.toNat_of_nonneg c] at h2
    have h3 := psR_m (Z := Z) (n := p.toNat) (len.toNat - p.toNat) (fun q hq => by have := hp q (by omega) (by omega); omega)
    rw [show p.toNat + (len.toNat - p.toNat) = (chF [N] t.toNat).length by omega, psR_l e2, v4] at h3
    rw [h2]; omega
  · rw [up_ni hE ht] at e ⊢
    exact h t p a (by omega) c e
theorem lay_fin {n : Nat} {S : Nat → xS} {Z Z2 : xZ} {k : Int} (hG : GI n S Z) (hs : smp Z2 k) (hk : Z2 7 5 ≤ k) (h57 : ∀ i, Z2 57 i = Z 57 i) (h56 : Z2 56 18 = Z 56 18) : SM Z2 ∧ WF Z2 ∧ ST Z2 :=
  ⟨fun t p a b c e => hs t p a (by omega) c e, WF_c (fun i _ => h57 i) hG.2.2.1, ST_c h56 h57 hG.2.2.2⟩
theorem f57_m0 {j z : Int} (h : f57 (j % 962) z) (h1 : 31 ≤ j ∧ j ≤ 60) (h3 : (j - 31) % 3 = 0) : f57 (27 % 962) z := by
  rw [Int.emod_eq_of_lt (by omega) (by omega)] at h
  have hz := h.2.2.2.2.2.2.2.2.1 h1.1 h1.2 h3
  show f57 27 z
  unfold f57
  refine ⟨by omega, by omega, by omega, by omega, by omega, fun _ => hz, by omega, by omega, by omega, by omega, by omega⟩
theorem f57_m1 {j z : Int} (h : f57 (j % 962) z) (h1 : 31 ≤ j ∧ j ≤ 60) (h3 : (j - 31) % 3 = 1) : f57 (28 % 962) z := by
  rw [Int.emod_eq_of_lt (by omega) (by omega)] at h
  have hz := h.2.2.2.2.2.2.2.2.2.1 h1.1 h1.2 h3
  show f57 28 z
  unfold f57
  refine ⟨by omega, by omega, by omega, by omega, by omega, by omega, fun _ => hz, by omega, by omega, by omega, by omega⟩
theorem f57_m2 {z : Int} : f57 (29 % 962) z := by
  show f57 29 z
  unfold f57
  refine ⟨by omega, by omega, by omega, by omega, by omega, by omega, by omega, by omega, by omega, by omega, by omega⟩
end LY
