/-! stands that are told, counts of stands, stands listed -/
section TOa
theorem pfx_m {f : Int → Int} {a : Int} : ∀ n : Nat, a ∈ pfx f n → ∃ j : Nat, j < n ∧ a = f (j : Int)
  | 0, h => by cases h
  | n + 1, h => by
    have h : a ∈ pfx f n ++ [f (n : Int)] := h
    rcases List.mem_append.mp h with h | h
    · obtain ⟨j, h1, h2⟩ := pfx_m n h
      exact ⟨j, by omega, h2⟩
    · exact ⟨n, Nat.lt_succ_self n, List.mem_singleton.mp h⟩
def INR (a : Int → Int) (n : Int) : Prop := ∀ j : Int, 0 ≤ j → j < n → 1 ≤ a j ∧ a j ≤ 18
theorem INR_c {a b : Int → Int} {n : Int} (e : ∀ j : Int, 0 ≤ j → j < n → b j = a j) (h : INR a n) : INR b n := fun j p q => by rw [e j p q]; exact h j p q
/-- what told() answers of n numbers -/
def TO (a : Int → Int) (n N z : Int) : Prop := ((n < 1 ∨ 18 < n) → z = -4) ∧ (1 ≤ n → n ≤ 18 → (¬ INR a n → z = -3) ∧ (INR a n → (¬ lsm (pfx a n.toNat) = N → z = -5) ∧ (lsm (pfx a n.toNat) = N → z = nmN N (fun v => ctl v (pfx a n.toNat)))))
/-- what noTold() answers -/
def TN (a : Int → Int) (n N z : Int) : Prop := ((n < 1 ∨ 18 < n) → z = -4) ∧ (1 ≤ n → n ≤ 18 → (¬ INR a n → z = -3) ∧ (INR a n → (¬ lsm (pfx a n.toNat) = N → z = -5) ∧ (lsm (pfx a n.toNat) = N → z = 0)))
theorem TO_u {a b : Int → Int} {n N z y : Int} (e : ∀ j : Int, 0 ≤ j → j < n → b j = a j) (h : TO a n N z) (k : TO b n N y) : z = y := by
  by_cases c : n < 1 ∨ 18 < n
  · rw [h.1 c, k.1 c]
  · have h2 := h.2 (by omega) (by omega)
    have k2 := k.2 (by omega) (by omega)
    have ep : pfx b n.toNat = pfx a n.toNat := pfx_c _ (fun j hj => e (j : Int) (by omega) (by omega))
    rw [ep] at k2
    by_cases r : INR a n
    · have h3 := h2.2 r
      have k3 := k2.2 (INR_c e r)
      by_cases s : lsm (pfx a n.toNat) = N
      · rw [h3.2 s, k3.2 s]
      · rw [h3.1 s, k3.1 s]
    · rw [h2.1 r, k2.1 (fun q => r (INR_c (fun j p w => (e j p w).symm) q))]
/-- noTold() says which it is -/
theorem TN_0 {a : Int → Int} {n N z : Int} (h : TN a n N z) (hz : z = 0) : 1 ≤ n ∧ n ≤ 18 ∧ INR a n ∧ lsm (pfx a n.toNat) = N := by
  by_cases c : n < 1 ∨ 18 < n
  · have := h.1 c; omega
  · have h2 := h.2 (by omega) (by omega)
    by_cases r : INR a n
    · by_cases s : lsm (pfx a n.toNat) = N
      · exact ⟨by omega, by omega, r, s⟩
      · have := (h2.2 r).1 s; omega
    · have := h2.1 r; omega
theorem TN_n {a : Int → Int} {n N z : Int} (h : TN a n N z) (hz : ¬ z = 0) : TO a n N z := by
  refine ⟨h.1, fun n1 n2 => ⟨(h.2 n1 n2).1, fun r => ⟨((h.2 n1 n2).2 r).1, fun s => absurd (((h.2 n1 n2).2 r).2 s) hz⟩⟩⟩
theorem TN_y {a : Int → Int} {n N z y : Int} (h : TN a n N y) (hy : y = 0) (hz : z = nmN N (fun v => ctl v (pfx a n.toNat))) : TO a n N z := by
  obtain ⟨h1, h2, h3, h4⟩ := TN_0 h hy
  exact ⟨fun c => absurd c (by omega), fun _ _ => ⟨fun c => absurd h3 c, fun _ => ⟨fun c => absurd h4 c, fun _ => hz⟩⟩⟩
theorem TO_4 {a : Int → Int} {n N z : Int} (c : n < 1 ∨ 18 < n) (hz : z = -4) : TO a n N z := ⟨fun _ => hz, fun n1 n2 => absurd c (by omega)⟩
theorem TO_3 {a : Int → Int} {n N z : Int} (n1 : 1 ≤ n) (n2 : n ≤ 18) (r : ¬ INR a n) (hz : z = -3) : TO a n N z := ⟨fun c => absurd c (by omega), fun _ _ => ⟨fun _ => hz, fun q => absurd q r⟩⟩
theorem TO_5 {a : Int → Int} {n N z t : Int} (n1 : 1 ≤ n) (n2 : n ≤ 18) (r : INR a n) (e : t = lsm (pfx a n.toNat)) (c : ¬ t = N) (hz : z = -5) : TO a n N z := ⟨fun c => absurd c (by omega), fun _ _ => ⟨fun q => absurd r q, fun _ => ⟨fun _ => hz, fun q => absurd (e.trans q) c⟩⟩⟩
theorem TO_y {a f : Int → Int} {n N z t : Int} (n1 : 1 ≤ n) (n2 : n ≤ 18) (r : INR a n) (e : t = lsm (pfx a n.toNat)) (c : t = N) (hf : ∀ v : Int, 0 ≤ v → v ≤ 18 → f v = ctl v (pfx a n.toNat)) (hz : z = nmN N f) : TO a n N z := ⟨fun c => absurd c (by omega), fun _ _ => ⟨fun q => absurd r q, fun _ => ⟨fun q => absurd (e.symm.trans c) q, fun _ => hz.trans (nmN_c (fun v v1 v2 => hf v (by omega) v2))⟩⟩⟩
theorem TN_4 {a : Int → Int} {n N z : Int} (c : n < 1 ∨ 18 < n) (hz : z = -4) : TN a n N z := ⟨fun _ => hz, fun n1 n2 => absurd c (by omega)⟩
theorem TN_3 {a : Int → Int} {n N z j : Int} (n1 : 1 ≤ n) (n2 : n ≤ 18) (j0 : 0 ≤ j) (j1 : j < n) (hj : ¬ (1 ≤ a j ∧ a j ≤ 18)) (hz : z = -3) : TN a n N z := ⟨fun c => absurd c (by omega), fun _ _ => ⟨fun _ => hz, fun q => absurd (q j j0 j1) hj⟩⟩
theorem TN_e {a : Int → Int} {n N z t : Int} (n1 : 1 ≤ n) (n2 : n ≤ 18) (r : INR a n) (e : t = lsm (pfx a n.toNat)) (hz : (t = N → z = 0) ∧ (¬ t = N → z = -5)) : TN a n N z := ⟨fun c => absurd c (by omega), fun _ _ => ⟨fun q => absurd r q, fun _ => ⟨fun q => hz.2 (fun w => q (e.symm.trans w)), fun q => hz.1 (e.trans q)⟩⟩⟩
/-- sums, as far as they are read -/
theorem inr_0 {a : Int → Int} : INR a 0 := fun j p q => absurd q (by omega)
theorem inr_s {a : Int → Int} {k : Int} (h : INR a k) (hk : 1 ≤ a k ∧ a k ≤ 18) : INR a (k + 1) := fun j p q => by
  by_cases e : j = k
  · rw [e]; exact hk
  · exact h j p (by omega)
theorem inr_m {a : Int → Int} {k n : Int} (h : INR a k) (hn : n ≤ k) : INR a n := fun j p q => h j p (by omega)
theorem lsp_0 {a : Int → Int} : (0 : Int) = lsm (pfx a (0 : Int).toNat) := rfl
theorem lsp_s {a : Int → Int} {k t x : Int} (h : t = lsm (pfx a k.toNat)) (k0 : 0 ≤ k) (hx : x = a k) : t + x = lsm (pfx a (k + 1).toNat) := by
  rw [show (k + 1).toNat = k.toNat + 1 by omega]
  show t + x = lsm (pfx a k.toNat ++ [a ((k.toNat : Nat) : Int)])
  rw [lsm_a, Int.toNat_of_nonneg k0, ← h, hx]
  show t + a k = t + (a k + 0)
  omega
theorem lsp_m {a : Int → Int} {k n t : Int} (h : t = lsm (pfx a k.toNat)) (e : k = n) : t = lsm (pfx a n.toNat) := e ▸ h
variable {Z Z2 : xZ}
/-- the class's tally of numbers told -/
def TLY (Z : xZ) (a : Int → Int) (k : Int) : Prop := ∀ v : Int, 0 ≤ v → v ≤ 18 → Z 42 v = ctl v (pfx a k.toNat)
theorem tly_0 {a : Int → Int} (h : ∀ v : Int, 0 ≤ v → v < 19 → 0 ≤ Z 42 v ∧ Z 42 v ≤ 0) : TLY Z a 0 := fun v v0 v1 => by
  have q := h v v0 (by omega)
  show Z 42 v = 0
  omega
theorem tly_s {a : Int → Int} {k x y : Int} (h : TLY Z a k) (k0 : 0 ≤ k) (hx : x = a k) (hE : Z2 = up Z 42 x y) (hy : y = Z 42 x + 1) : TLY Z2 a (k + 1) := fun v v0 v1 => by
  rw [show (k + 1).toNat = k.toNat + 1 by omega]
  show Z2 42 v = ctl v (pfx a k.toNat ++ [a ((k.toNat : Nat) : Int)])
  rw [ctl_a, Int.toNat_of_nonneg k0, ← hx]
  show Z2 42 v = ctl v (pfx a k.toNat) + ((if x = v then 1 else 0) + 0)
  by_cases e : v = x
  · rw [e, up_at hE, hy, if_pos rfl, ← e, h v v0 v1]; omega
  · rw [up_ni hE e, if_neg (fun q => e q.symm), h v v0 v1]; omega
theorem tly_m {a : Int → Int} {k n : Int} (h : TLY Z a k) (e : k = n) : TLY Z a n := e ▸ h
/-- the reference's heaps of numbers told -/
def HPF (Z : xZ) (a : Int → Int) (k : Int) : Prop := (∀ i : Int, 0 ≤ i → i < k → Z 62 i = a i) ∧ (∀ i : Int, k ≤ i → i < 20 → Z 62 i = 0)
theorem hpf_0 {a : Int → Int} (h : FLL Z 62 20 0) : HPF Z a 0 := ⟨fun i p q => absurd q (by omega), fun i p q => h i p q⟩
theorem hpf_s {a : Int → Int} {k y : Int} (h : HPF Z a k) (hE : Z2 = up Z 62 k y) (hy : y = a k) : HPF Z2 a (k + 1) := by
  refine ⟨fun i p q => ?_, fun i p q => ?_⟩
  · by_cases e : i = k
    · rw [e, up_at hE, hy]
    · rw [up_ni hE e]; exact h.1 i p (by omega)
  · rw [up_ni hE (by omega)]; exact h.2 i (by omega) q
theorem npr_t {a : Int → Int} {k n N : Int} (h : HPF Z a k) (hk : k = n) (hN : 1 ≤ N ∧ N ≤ 18) (n1 : 1 ≤ n ∧ n ≤ 18) (r : INR a n) (s : lsm (pfx a n.toNat) = N) : NPR Z N (nmN N (fun v => ctl v (pfx a n.toNat))) := by
  subst hk
  have ep : pfx (Z 62) k.toNat = pfx a k.toNat := pfx_c _ (fun j hj => h.1 (j : Int) (by omega) (by omega))
  refine npr_l (n := k.toNat) hN (by omega) (fun j j1 j2 => h.2 (j : Int) (by omega) (by omega)) (fun x hx => ?_) (fun v _ _ => by rw [ep]) (by rw [ep]; exact s)
  rw [ep] at hx
  obtain ⟨j, j1, j2⟩ := pfx_m _ hx
  have q := r (j : Int) (by omega) (by omega)
  rw [j2]
  exact ⟨by omega, q.2⟩
end TOa
section BNa
variable {Z Z2 : xZ}
noncomputable def bnf (N k m : Int) : Nat → Int
  | 0 => 0
  | s + 1 => (if hln N (s : Int) ≤ k ∧ hpk N (s : Int) 0 ≤ m then 1 else 0) + bnf N k m s
theorem bn_0 {N k m : Int} : (0 : Int) = bnf N k m (0 : Int).toNat := rfl
theorem bn_y {N k m s t : Int} (h : t = bnf N k m s.toNat) (s0 : 0 ≤ s) (h1 : hln N s ≤ k) (h2 : hpk N s 0 ≤ m) : t + 1 = bnf N k m (s + 1).toNat := by
  rw [show (s + 1).toNat = s.toNat + 1 by omega]
  show t + 1 = (if hln N ((s.toNat : Nat) : Int) ≤ k ∧ hpk N ((s.toNat : Nat) : Int) 0 ≤ m then 1 else 0) + bnf N k m s.toNat
  rw [Int.toNat_of_nonneg s0, if_pos ⟨h1, h2⟩, ← h]; omega
theorem bn_n {N k m s t : Int} (h : t = bnf N k m s.toNat) (s0 : 0 ≤ s) (h1 : ¬ (hln N s ≤ k ∧ hpk N s 0 ≤ m)) : t = bnf N k m (s + 1).toNat := by
  rw [show (s + 1).toNat = s.toNat + 1 by omega]
  show t = (if hln N ((s.toNat : Nat) : Int) ≤ k ∧ hpk N ((s.toNat : Nat) : Int) 0 ≤ m then 1 else 0) + bnf N k m s.toNat
  rw [Int.toNat_of_nonneg s0, if_neg h1, ← h]; omega
theorem mn_h {N s : Int} (hr : RTB Z N) (hN : 1 ≤ N ∧ N ≤ 18) (h0 : 0 ≤ s) (h1 : s < pN N) : mn Z s = hln N s := by
  have b := hln_b hN h0 h1
  have key : ∀ k : Nat, (k : Int) ≤ hln N s → mn Z s = mnk Z s (k : Int) := by
    intro k
    induction k with
    | zero => intro _; rfl
    | succ k ih =>
      intro hk
      have p := hpk_b hN h0 h1 (k := (k : Int)) (by omega) (by omega)
      rw [ih (by omega), mn_s (Z := Z) (s := s) (k := (k : Int)) (by omega) (by rw [hr s (k : Int) h0 h1 (by omega) (by omega)]; omega)]
      rfl
  have e := key (hln N s).toNat (by omega)
  rw [Int.toNat_of_nonneg (by omega)] at e
  rw [e]
  refine mn_x (by omega) ?_
  by_cases c : hln N s = 18
  · exact Or.inl c
  · right
    rw [hr s (hln N s) h0 h1 (by omega) (by omega), hpk_o (Int.le_refl _)]
    decide
/-- as far as it is listed -/
def LI (f a b : Int → Int) (c : Int) : Prop := ∀ j : Int, 0 ≤ j → (j < c → b j = f j) ∧ (c ≤ j → b j = a j)
theorem li_0 {f a : Int → Int} : LI f a a 0 := fun j j0 => ⟨fun q => absurd q (by omega), fun _ => rfl⟩
theorem li_s {f a b b2 : Int → Int} {c : Int} (h : LI f a b c) (e : b2 c = f c) (en : ∀ i : Int, ¬ i = c → b2 i = b i) : LI f a b2 (c + 1) := fun j j0 => by
  by_cases q : j = c
  · rw [q]; exact ⟨fun _ => e, fun w => absurd w (by omega)⟩
  · rw [en j q]; exact ⟨fun w => (h j j0).1 (by omega), fun w => (h j j0).2 (by omega)⟩
/-- cut to any sort, a size stays -/
theorem ct_sz {s v z : Int} (h : (s = 0 → -128 ≤ z ∧ z ≤ 127 ∧ (z - v) % 256 = 0) ∧ (s = 1 → -32768 ≤ z ∧ z ≤ 32767 ∧ (z - v) % 65536 = 0) ∧ (s = 2 → -2147483648 ≤ z ∧ z ≤ 2147483647 ∧ (z - v) % 4294967296 = 0) ∧ (¬ s = 0 → ¬ s = 1 → ¬ s = 2 → z = v)) (hv : 0 ≤ v ∧ v ≤ 18) : z = v := by omega
end BNa
