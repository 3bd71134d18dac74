/-! all heaps there can be of as much together: lists in their order, their numbers -/
section NMa
/-- lists of n together by parts of m at most, the greatest part first, the greater lists first (f: more than n + m) -/
def PL : Nat → Nat → Nat → List (List Int)
  | 0, _, _ => []
  | f + 1, n, m => if n = 0 then [[]] else if m = 0 then [] else (if m ≤ n then (PL f (n - m) m).map (fun l => ((m : Nat) : Int) :: l) else []) ++ PL f n (m - 1)
def ctl (v : Int) : List Int → Int
  | [] => 0
  | a :: l => (if a = v then 1 else 0) + ctl v l
theorem ctl_p (v : Int) : ∀ l : List Int, 0 ≤ ctl v l
  | [] => Int.le_refl _
  | a :: l => by
    have h := ctl_p v l
    show 0 ≤ (if a = v then 1 else 0) + ctl v l
    split <;> omega
theorem ctl_a (v : Int) : ∀ l r : List Int, ctl v (l ++ r) = ctl v l + ctl v r
  | [], r => by show ctl v r = 0 + ctl v r; omega
  | a :: l, r => by
    show (if a = v then 1 else 0) + ctl v (l ++ r) = (if a = v then 1 else 0) + ctl v l + ctl v r
    rw [ctl_a v l r]; omega
theorem ctl_n (v : Int) : ∀ l : List Int, (∀ a ∈ l, ¬ a = v) → ctl v l = 0
  | [], _ => rfl
  | a :: l, h => by
    show (if a = v then 1 else 0) + ctl v l = 0
    rw [if_neg (h a List.mem_cons_self), ctl_n v l (fun b hb => h b (List.mem_cons_of_mem _ hb))]; rfl
/-- numbers by how often they are: all together -/
def wsm (f : Int → Int) : Nat → Int
  | 0 => 0
  | m + 1 => ((m + 1 : Nat) : Int) * f ((m + 1 : Nat) : Int) + wsm f m
theorem wsm_p {f : Int → Int} (h : ∀ v, 0 ≤ f v) : ∀ m, 0 ≤ wsm f m
  | 0 => Int.le_refl _
  | m + 1 => by
    have a := wsm_p h m
    have b : 0 ≤ ((m + 1 : Nat) : Int) * f ((m + 1 : Nat) : Int) := Int.mul_nonneg (by omega) (h _)
    show 0 ≤ ((m + 1 : Nat) : Int) * f ((m + 1 : Nat) : Int) + wsm f m
    omega
theorem wsm_c {f g : Int → Int} : ∀ m : Nat, (∀ v : Int, 1 ≤ v → v ≤ (m : Int) → f v = g v) → wsm f m = wsm g m
  | 0, _ => rfl
  | m + 1, h => by
    show ((m + 1 : Nat) : Int) * f ((m + 1 : Nat) : Int) + wsm f m = ((m + 1 : Nat) : Int) * g ((m + 1 : Nat) : Int) + wsm g m
    rw [h _ (by omega) (by omega), wsm_c m (fun v h1 h2 => h v h1 (by omega))]
theorem wsm_z {f : Int → Int} (h : ∀ v, 0 ≤ f v) : ∀ m : Nat, wsm f m = 0 → ∀ v : Int, 1 ≤ v → v ≤ (m : Int) → f v = 0
  | 0, _, v, h1, h2 => by omega
  | m + 1, e, v, h1, h2 => by
    have a := wsm_p h m
    have b : 0 ≤ ((m + 1 : Nat) : Int) * f ((m + 1 : Nat) : Int) := Int.mul_nonneg (by omega) (h _)
    have e : ((m + 1 : Nat) : Int) * f ((m + 1 : Nat) : Int) + wsm f m = 0 := e
    by_cases hv : v = ((m + 1 : Nat) : Int)
    · subst hv
      have z : ((m + 1 : Nat) : Int) * f ((m + 1 : Nat) : Int) = 0 := by omega
      rcases Int.mul_eq_zero.mp z with q | q
      · omega
      · exact q
    · exact wsm_z h m (by omega) v h1 (by omega)
theorem PL_s {f n m : Nat} (hn : ¬ n = 0) (hm : ¬ m = 0) : PL (f + 1) n m = (if m ≤ n then (PL f (n - m) m).map (fun l => ((m : Nat) : Int) :: l) else []) ++ PL f n (m - 1) := (if_neg hn).trans (if_neg hm)
theorem PL_b : ∀ (f n m : Nat) (l : List Int), l ∈ PL f n m → ∀ a ∈ l, 1 ≤ a ∧ a ≤ (m : Int)
  | 0, _, _, l, h => by cases h
  | f + 1, n, m, l, h => by
    intro a ha
    by_cases hn : n = 0
    · rw [show PL (f + 1) n m = [[]] from if_pos hn] at h
      rw [List.mem_singleton.mp h] at ha; cases ha
    · by_cases hm : m = 0
      · rw [show PL (f + 1) n m = [] from (if_neg hn).trans (if_pos hm)] at h; cases h
      · rw [PL_s hn hm] at h
        rcases List.mem_append.mp h with h | h
        · by_cases c : m ≤ n
          · rw [if_pos c] at h
            obtain ⟨r, hr, rfl⟩ := List.mem_map.mp h
            rcases List.mem_cons.mp ha with e | e
            · omega
            · exact PL_b f (n - m) m r hr a e
          · rw [if_neg c] at h; cases h
        · have := PL_b f n (m - 1) l h a ha
          omega
theorem PL_e : ∀ (fu n m : Nat) (f : Int → Int), n + m < fu → (∀ v, 0 ≤ f v) → wsm f m = (n : Int) → ∃ l, l ∈ PL fu n m ∧ ∀ v : Int, 1 ≤ v → v ≤ (m : Int) → ctl v l = f v
  | 0, _, _, _, h, _, _ => absurd h (by omega)
  | fu + 1, n, m, f, h, h0, e => by
    by_cases hn : n = 0
    · refine ⟨[], by rw [show PL (fu + 1) n m = [[]] from if_pos hn]; exact List.mem_singleton.mpr rfl, fun v h1 h2 => ?_⟩
      exact (wsm_z h0 m (by rw [e, hn]; rfl) v h1 h2).symm
    · match m, e, h with
      | 0, e, h => have e : (0 : Int) = (n : Int) := e; omega
      | k + 1, e, h =>
        have e : ((k + 1 : Nat) : Int) * f ((k + 1 : Nat) : Int) + wsm f k = (n : Int) := e
        rw [PL_s hn (by omega)]
        by_cases c : f ((k + 1 : Nat) : Int) = 0
        · rw [c, Int.mul_zero] at e
          obtain ⟨l, hl, hc⟩ := PL_e fu n k f (by omega) h0 (by omega)
          refine ⟨l, List.mem_append.mpr (Or.inr hl), fun v h1 h2 => ?_⟩
          by_cases hv : v = ((k + 1 : Nat) : Int)
          · rw [hv, c]
            exact ctl_n _ l (fun a ha q => by have := PL_b fu n k l hl a ha; omega)
          · exact hc v h1 (by omega)
        · have p := h0 ((k + 1 : Nat) : Int)
          have g0 : ∀ v, 0 ≤ (fun v => if v = ((k + 1 : Nat) : Int) then f v - 1 else f v) v := fun v => by
            show 0 ≤ (if v = ((k + 1 : Nat) : Int) then f v - 1 else f v)
            split
            · rename_i q; rw [q]; omega
            · exact h0 v
          have ge : wsm (fun v => if v = ((k + 1 : Nat) : Int) then f v - 1 else f v) (k + 1) = (n : Int) - ((k + 1 : Nat) : Int) := by
            show ((k + 1 : Nat) : Int) * (if ((k + 1 : Nat) : Int) = ((k + 1 : Nat) : Int) then f ((k + 1 : Nat) : Int) - 1 else f ((k + 1 : Nat) : Int)) + wsm (fun v => if v = ((k + 1 : Nat) : Int) then f v - 1 else f v) k = _
            rw [if_pos rfl, Int.mul_sub, Int.mul_one, wsm_c (g := f) k (fun v h1 h2 => if_neg (by omega))]
            omega
          have gp := wsm_p g0 (k + 1)
          have hk : k + 1 ≤ n := by omega
          obtain ⟨l, hl, hc⟩ := PL_e fu (n - (k + 1)) (k + 1) _ (by omega) g0 (by rw [ge]; omega)
          refine ⟨((k + 1 : Nat) : Int) :: l, List.mem_append.mpr (Or.inl ?_), fun v h1 h2 => ?_⟩
          · rw [if_pos hk]
            exact List.mem_map.mpr ⟨l, hl, rfl⟩
          · show (if ((k + 1 : Nat) : Int) = v then 1 else 0) + ctl v l = f v
            rw [hc v h1 h2]
            by_cases hv : v = ((k + 1 : Nat) : Int)
            · rw [if_pos hv.symm, if_pos hv]; omega
            · rw [if_neg (fun q => hv q.symm), if_neg hv]; omega
end NMa
/-! the class's chain of rows is that list; numbers -/
section NMb
/-- rows in a chain, each turned around -/
noncomputable def ckL : List (List Int) → List Int → Bool
  | [], _ => true
  | l :: ls, c => decide (l = c.reverse) && ckL ls (poL 19 c 1)
theorem ckL_at : ∀ (ls : List (List Int)) (c : List Int), ckL ls c = true → ∀ s : Nat, s < ls.length → ls[s]? = some (chF c s).reverse
  | [], _, _, s, h => absurd h (Nat.not_lt_zero s)
  | l :: ls, c, h, s, hs => by
    have h : (decide (l = c.reverse) && ckL ls (poL 19 c 1)) = true := h
    rw [Bool.and_eq_true] at h
    match s, hs with
    | 0, _ => show some l = some c.reverse; rw [of_decide_eq_true h.1]
    | s + 1, hs =>
      show ls[s]? = _
      rw [chF_s]
      exact ckL_at ls _ h.2 s (by have hs : s + 1 < ls.length + 1 := hs; omega)
set_option maxRecDepth 100000 in
theorem PLc : ∀ N, N < 19 → 1 ≤ N → (ckL (PL 37 N 18) [((N : Nat) : Int)] = true ∧ (((PL 37 N 18).length : Nat) : Int) = wy (((N : Nat) : Int) * 19 + ((N : Nat) : Int))) := by decide +kernel
/-- heaps of a number, the greatest first -/
noncomputable def hpl (N s : Int) : List Int := (chF [N] s.toNat).reverse
noncomputable def pN (N : Int) : Int := wy (N * 19 + N)
theorem PL_at {N s : Int} (hN : 1 ≤ N ∧ N ≤ 18) (h0 : 0 ≤ s) (h1 : s < pN N) : (PL 37 N.toNat 18)[s.toNat]? = some (hpl N s) := by
  have h := PLc N.toNat (by omega) (by omega)
  rw [Int.toNat_of_nonneg (by omega)] at h
  exact ckL_at _ _ h.1 _ (by unfold pN at h1; omega)
/-- the number that numberOf() tells of how many heaps there are of each size -/
noncomputable def nmf (f : Int → Int) : Nat → Int → Int → Int → Int
  | 0, nb, _, _ => nb
  | k + 1, nb, rest, above => if rest ≤ 0 then nb else if 0 < f ((k + 1 : Nat) : Int) then nmf f k (nb + (wy (rest * 19 + above) - wy (rest * 19 + ((k + 1 : Nat) : Int)))) (rest - ((k + 1 : Nat) : Int) * f ((k + 1 : Nat) : Int)) ((k + 1 : Nat) : Int) else nmf f k nb rest above
theorem nmf_c {f g : Int → Int} : ∀ (k : Nat) (nb rest above : Int), (∀ v : Int, 1 ≤ v → v ≤ (k : Int) → f v = g v) → nmf f k nb rest above = nmf g k nb rest above
  | 0, _, _, _, _ => rfl
  | k + 1, nb, rest, above, h => by
    show (if rest ≤ 0 then nb else if 0 < f ((k + 1 : Nat) : Int) then nmf f k (nb + (wy (rest * 19 + above) - wy (rest * 19 + ((k + 1 : Nat) : Int)))) (rest - ((k + 1 : Nat) : Int) * f ((k + 1 : Nat) : Int)) ((k + 1 : Nat) : Int) else nmf f k nb rest above) = (if rest ≤ 0 then nb else if 0 < g ((k + 1 : Nat) : Int) then nmf g k (nb + (wy (rest * 19 + above) - wy (rest * 19 + ((k + 1 : Nat) : Int)))) (rest - ((k + 1 : Nat) : Int) * g ((k + 1 : Nat) : Int)) ((k + 1 : Nat) : Int) else nmf g k nb rest above)
    rw [h ((k + 1 : Nat) : Int) (by omega) (by omega), nmf_c k _ _ _ (fun v h1 h2 => h v h1 (by omega)), nmf_c k _ _ _ (fun v h1 h2 => h v h1 (by omega))]
noncomputable def nmN (N : Int) (f : Int → Int) : Int := nmf f 18 0 N 18
theorem nmN_c {N : Int} {f g : Int → Int} (h : ∀ v : Int, 1 ≤ v → v ≤ 18 → f v = g v) : nmN N f = nmN N g := nmf_c 18 0 N 18 h
noncomputable def ckN (N : Int) : List (List Int) → Nat → Bool
  | [], _ => true
  | l :: ls, s => decide (nmN N (fun v => ctl v l) = ((s : Nat) : Int)) && ckN N ls (s + 1)
theorem ckN_at {N : Int} : ∀ (ls : List (List Int)) (s : Nat), ckN N ls s = true → ∀ (j : Nat) (l : List Int), ls[j]? = some l → nmN N (fun v => ctl v l) = ((s + j : Nat) : Int)
  | [], _, _, j, l, h => by cases h
  | a :: ls, s, h, j, l, e => by
    have h : (decide (nmN N (fun v => ctl v a) = ((s : Nat) : Int)) && ckN N ls (s + 1)) = true := h
    rw [Bool.and_eq_true] at h
    match j, e with
    | 0, e =>
      have e : some a = some l := e
      cases e
      exact of_decide_eq_true h.1
    | j + 1, e =>
      have := ckN_at ls (s + 1) h.2 j l e
      rw [this, show s + 1 + j = s + (j + 1) by omega]
set_option maxRecDepth 100000 in
theorem PLn : ∀ N, N < 19 → 1 ≤ N → ckN ((N : Nat) : Int) (PL 37 N 18) 0 = true := by decide +kernel
theorem nm_at {N s : Int} (hN : 1 ≤ N ∧ N ≤ 18) (h0 : 0 ≤ s) (h1 : s < pN N) : nmN N (fun v => ctl v (hpl N s)) = s := by
  have h := PLn N.toNat (by omega) (by omega)
  have q := ckN_at _ 0 h s.toNat (hpl N s) (PL_at hN h0 h1)
  rw [Int.toNat_of_nonneg (show 0 ≤ N by omega)] at q
  rw [q]; omega
/-- whatever heaps: there is a number -/
theorem nm_ex {N : Int} {f : Int → Int} (hN : 1 ≤ N ∧ N ≤ 18) (h0 : ∀ v, 0 ≤ f v) (e : wsm f 18 = N) : 0 ≤ nmN N f ∧ nmN N f < pN N ∧ ∀ v : Int, 1 ≤ v → v ≤ 18 → ctl v (hpl N (nmN N f)) = f v := by
  obtain ⟨l, hl, hc⟩ := PL_e 37 N.toNat 18 f (by omega) h0 (by rw [e]; omega)
  obtain ⟨j, hj⟩ := List.getElem?_of_mem hl
  have h := PLc N.toNat (by omega) (by omega)
  rw [Int.toNat_of_nonneg (show 0 ≤ N by omega)] at h
  have hlt : j < (PL 37 N.toNat 18).length := by
    by_cases c : j < (PL 37 N.toNat 18).length
    · exact c
    · rw [List.getElem?_eq_none (by omega)] at hj; cases hj
  have hq := ckL_at _ _ h.1 j hlt
  rw [hj] at hq
  have hq : l = (chF [N] j).reverse := Option.some.inj hq
  have hp : hpl N ((j : Nat) : Int) = l := by unfold hpl; rw [Int.toNat_natCast]; exact hq.symm
  have hb : ((j : Nat) : Int) < pN N := by unfold pN; omega
  have n1 := nm_at hN (by omega) hb
  have n2 : nmN N f = ((j : Nat) : Int) := by
    rw [← n1, hp]
    exact nmN_c (fun v h1 h2 => (hc v h1 h2).symm)
  rw [n2, hp]
  exact ⟨by omega, hb, hc⟩
end NMb
