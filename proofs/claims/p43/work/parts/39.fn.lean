section FN
variable {Z Z2 : xZ}
theorem up_0 {k : Nat} {g z v : Int} (hE : Z2 = up Z k g z) (h1 : g = 0 → z = v) (h2 : ¬ g = 0 → Z k 0 = v) : Z2 k 0 = v := by
  by_cases hg : g = 0
  · subst hg; rw [up_at hE]; exact h1 rfl
  · rw [up_ni hE (Ne.symm hg)]; exact h2 hg
/-- whether a size lies in a stand -/
noncomputable def hv (Z : xZ) (s t : Int) : Int := @ite _ (1 ≤ t ∧ ∃ j : Int, 0 ≤ j ∧ j ≤ 17 ∧ Z 61 (18 * s + j) = t) (Classical.propDecidable _) 1 0
theorem hv_c {s t : Int} (h : ∀ i, Z2 61 i = Z 61 i) : hv Z2 s t = hv Z s t := by
  unfold hv; rw [show Z2 61 = Z 61 from funext h]
theorem hv_y {s t j : Int} (h1 : 1 ≤ t) (hj : 0 ≤ j ∧ j ≤ 17) (e : Z 61 (18 * s + j) = t) : hv Z s t = 1 := if_pos ⟨h1, j, hj.1, hj.2, e⟩
def nm (Z : xZ) (s t k : Int) : Prop := ∀ j : Int, 0 ≤ j → j < k → ¬ Z 61 (18 * s + j) = t
theorem nm_0 {s t k : Int} (h : k ≤ 0) : nm Z s t k := fun j h0 h1 => absurd h1 (by omega)
theorem nm_s {s t k : Int} (h : nm Z s t k) (e : ¬ Z 61 (18 * s + k) = t) : nm Z s t (k + 1) := fun j h0 h1 => by
  by_cases hj : j = k
  · rw [hj]; exact e
  · exact h j h0 (by omega)
theorem hv_n {s t k : Int} (h : t ≤ 0 ∨ (18 ≤ k ∧ nm Z s t k)) : hv Z s t = 0 := if_neg (fun q => by
  obtain ⟨q1, j, q2, q3, q4⟩ := q
  rcases h with h | h
  · omega
  · exact h.2 j q2 (by omega) q4)
/-- the codes of a law -/
noncomputable def dp (Z : xZ) (w k : Int) : Int := dpf (fun i => Z 57 (62 + i)) (Z 57 (23 + w)) k.toNat
theorem WF_law (hW : WF Z) {w k : Int} (h01 : w = 0 ∨ w = 1) (e : Z 57 (21 + w) = 1) (hk : 0 ≤ k ∧ k < Z 57 (25 + w)) :
    (Z 57 (62 + Z 57 (23 + w) + k) < 3000 ∧ 0 ≤ Z 57 (62 + Z 57 (23 + w) + k) ∧ Z 57 (62 + Z 57 (23 + w) + k) ≤ 1004 ∧ dp Z w (k + 1) = dp Z w k + 1) ∨ (Z 57 (62 + Z 57 (23 + w) + k) = 3006 ∧ 1 ≤ dp Z w k ∧ dp Z w (k + 1) = dp Z w k) ∨ (Z 57 (62 + Z 57 (23 + w) + k) = 3009 ∧ 3 ≤ dp Z w k ∧ dp Z w (k + 1) = dp Z w k - 2) ∨ (3000 ≤ Z 57 (62 + Z 57 (23 + w) + k) ∧ Z 57 (62 + Z 57 (23 + w) + k) ≤ 3009 ∧ ¬ Z 57 (62 + Z 57 (23 + w) + k) = 3006 ∧ ¬ Z 57 (62 + Z 57 (23 + w) + k) = 3009 ∧ 2 ≤ dp Z w k ∧ dp Z w (k + 1) = dp Z w k - 1) := by
  obtain ⟨h1, h2, h3, h4⟩ := (show 0 ≤ Z 57 (23 + w) ∧ 0 ≤ Z 57 (25 + w) ∧ Z 57 (23 + w) + Z 57 (25 + w) ≤ 900 ∧ wsf (fun i => Z 57 (62 + i)) (Z 57 (23 + w)) (Z 57 (25 + w)).toNat from hW.1 w h01 e)
  have h := h4 k.toNat (by omega)
  have ek : ((k.toNat : Nat) : Int) = k := Int.toNat_of_nonneg hk.1
  have es : dp Z w (k + 1) = dp Z w k + dl (Z 57 (62 + Z 57 (23 + w) + k)) := by
    unfold dp
    rw [show (k + 1).toNat = k.toNat + 1 by omega]
    show dpf (fun i => Z 57 (62 + i)) (Z 57 (23 + w)) k.toNat + dl (Z 57 (62 + (Z 57 (23 + w) + (k.toNat : Int)))) = _
    rw [ek, Int.add_assoc]
  have hn : nd (Z 57 (62 + Z 57 (23 + w) + k)) ≤ dp Z w k := by
    have := h.2
    rw [ek] at this
    rw [Int.add_assoc]; exact this
  have ho : okc (Z 57 (62 + Z 57 (23 + w) + k)) := by
    have := h.1
    rw [ek] at this
    rw [Int.add_assoc]; exact this
  rw [es]
  generalize Z 57 (62 + Z 57 (23 + w) + k) = c at hn ho ⊢
  unfold okc at ho
  unfold nd at hn
  unfold dl
  by_cases c1 : c < 3000
  · rw [if_pos c1]; omega
  · rw [if_neg c1] at hn ⊢
    by_cases c2 : c = 3006
    · rw [if_pos c2] at hn ⊢; omega
    · rw [if_neg c2] at hn ⊢
      by_cases c3 : c = 3009
      · rw [if_pos c3] at hn ⊢; omega
      · rw [if_neg c3] at hn ⊢; omega
theorem WF_l0 (hW : WF Z) {k : Int} (e : Z 57 21 = 1) (hk : 0 ≤ k ∧ k < Z 57 25) : (Z 57 (62 + Z 57 23 + k) < 3000 ∧ 0 ≤ Z 57 (62 + Z 57 23 + k) ∧ Z 57 (62 + Z 57 23 + k) ≤ 1004 ∧ dp Z 0 (k + 1) = dp Z 0 k + 1) ∨ (Z 57 (62 + Z 57 23 + k) = 3006 ∧ 1 ≤ dp Z 0 k ∧ dp Z 0 (k + 1) = dp Z 0 k) ∨ (Z 57 (62 + Z 57 23 + k) = 3009 ∧ 3 ≤ dp Z 0 k ∧ dp Z 0 (k + 1) = dp Z 0 k - 2) ∨ (3000 ≤ Z 57 (62 + Z 57 23 + k) ∧ Z 57 (62 + Z 57 23 + k) ≤ 3009 ∧ ¬ Z 57 (62 + Z 57 23 + k) = 3006 ∧ ¬ Z 57 (62 + Z 57 23 + k) = 3009 ∧ 2 ≤ dp Z 0 k ∧ dp Z 0 (k + 1) = dp Z 0 k - 1) := WF_law (w := 0) hW (by omega) e hk
theorem WF_m0 (hW : WF Z) (e : Z 57 21 = 1) : 0 ≤ Z 57 23 ∧ 0 ≤ Z 57 25 ∧ Z 57 23 + Z 57 25 ≤ 900 := ⟨(hW.1 0 (by omega) e).1, (hW.1 0 (by omega) e).2.1, (hW.1 0 (by omega) e).2.2.1⟩
theorem dp_00 : dp Z 0 0 = 0 := rfl
theorem WF_l1 (hW : WF Z) {k : Int} (e : Z 57 22 = 1) (hk : 0 ≤ k ∧ k < Z 57 26) : (Z 57 (62 + Z 57 24 + k) < 3000 ∧ 0 ≤ Z 57 (62 + Z 57 24 + k) ∧ Z 57 (62 + Z 57 24 + k) ≤ 1004 ∧ dp Z 1 (k + 1) = dp Z 1 k + 1) ∨ (Z 57 (62 + Z 57 24 + k) = 3006 ∧ 1 ≤ dp Z 1 k ∧ dp Z 1 (k + 1) = dp Z 1 k) ∨ (Z 57 (62 + Z 57 24 + k) = 3009 ∧ 3 ≤ dp Z 1 k ∧ dp Z 1 (k + 1) = dp Z 1 k - 2) ∨ (3000 ≤ Z 57 (62 + Z 57 24 + k) ∧ Z 57 (62 + Z 57 24 + k) ≤ 3009 ∧ ¬ Z 57 (62 + Z 57 24 + k) = 3006 ∧ ¬ Z 57 (62 + Z 57 24 + k) = 3009 ∧ 2 ≤ dp Z 1 k ∧ dp Z 1 (k + 1) = dp Z 1 k - 1) := WF_law (w := 1) hW (by omega) e hk
theorem WF_m1 (hW : WF Z) (e : Z 57 22 = 1) : 0 ≤ Z 57 24 ∧ 0 ≤ Z 57 26 ∧ Z 57 24 + Z 57 26 ≤ 900 := ⟨(hW.1 1 (by omega) e).1, (hW.1 1 (by omega) e).2.1, (hW.1 1 (by omega) e).2.2.1⟩
theorem dp_01 : dp Z 1 0 = 0 := rfl
/-- bounds of the first entries of a row, as a number -/
noncomputable def ai (c : Nat) (Z : xZ) (len lo hi : Int) : Int := @ite _ (AB Z c len lo hi) (Classical.propDecidable _) 1 0
theorem ai_y {c : Nat} {len lo hi : Int} (h : AB Z c len lo hi) : ai c Z len lo hi = 1 := if_pos h
theorem ai_b {c : Nat} {len lo hi : Int} (h : ai c Z len lo hi = 1) : AB Z c len lo hi := by
  unfold ai at h
  by_cases hq : AB Z c len lo hi
  · exact hq
  · rw [if_neg hq] at h; cases h
theorem ai_c {c : Nat} {len lo hi : Int} (h : ∀ i, Z2 c i = Z c i) : ai c Z2 len lo hi = ai c Z len lo hi := by
  unfold ai AB; rw [show Z2 c = Z c from funext h]
theorem ai_0 {c : Nat} {len lo hi : Int} (h : len ≤ 0) : ai c Z len lo hi = 1 := ai_y (ab_nil h)
theorem ai_m {c : Nat} {len lo hi len2 lo2 hi2 : Int} (h : ai c Z len lo hi = 1) (h0 : len2 ≤ len) (h1 : lo2 ≤ lo) (h2 : hi ≤ hi2) : ai c Z len2 lo2 hi2 = 1 := ai_y (ab_mono (ai_b h) h0 h1 h2)
theorem ai_s {c : Nat} {g z len lo hi len2 : Int} (h : ai c Z len lo hi = 1) (hE : Z2 = up Z c g z) (hg : g = len) (hz : lo ≤ z ∧ z ≤ hi) (h2 : len2 = len + 1) : ai c Z2 len2 lo hi = 1 := by
  subst h2; subst hg; exact ai_y (fill_up hE (ai_b h) hz)
theorem ai_u {c : Nat} {g z len lo hi : Int} (h : ai c Z len lo hi = 1) (hE : Z2 = up Z c g z) (hz : lo ≤ z ∧ z ≤ hi) : ai c Z2 len lo hi = 1 := ai_y (ab_up hE (ai_b h) hz (Int.le_refl _) (Int.le_refl _))
theorem ai_at {c : Nat} {i len lo hi : Int} (h : ai c Z len lo hi = 1) (hi2 : 0 ≤ i ∧ i < len) : lo ≤ Z c i ∧ Z c i ≤ hi := ai_b h i hi2.1 hi2.2
/-- how many of the first entries are v -/
noncomputable def cq (c : Nat) (v : Int) (Z : xZ) (m : Nat) : Int := Nat.rec (motive := fun _ => Int) 0 (fun i r => r + @ite _ (Z c (i : Int) = v) (Classical.propDecidable _) 1 0) m
noncomputable def cn (c : Nat) (v : Int) (Z : xZ) (m : Int) : Int := cq c v Z m.toNat
theorem cq_b {c : Nat} {v : Int} : ∀ {m : Nat}, 0 ≤ cq c v Z m ∧ cq c v Z m ≤ (m : Int)
  | 0 => ⟨Int.le_refl _, Int.le_refl _⟩
  | m + 1 => by
    have h := cq_b (c := c) (v := v) (m := m)
    show 0 ≤ cq c v Z m + _ ∧ cq c v Z m + _ ≤ _
    split <;> omega
theorem cq_c {c : Nat} {v : Int} : ∀ {m : Nat}, (∀ i : Nat, i < m → (Z2 c (i : Int) = v ↔ Z c (i : Int) = v)) → cq c v Z2 m = cq c v Z m
  | 0, _ => rfl
  | m + 1, h => by
    show cq c v Z2 m + _ = cq c v Z m + _
    rw [cq_c (fun i hi => h i (by omega))]
    by_cases hq : Z c (m : Int) = v
    · rw [if_pos hq, if_pos ((h m (by omega)).mpr hq)]
    · rw [if_neg hq, if_neg (fun e => hq ((h m (by omega)).mp e))]
theorem cn_c {c : Nat} {v m : Int} (h : ∀ i, Z2 c i = Z c i) : cn c v Z2 m = cn c v Z m := cq_c (fun i _ => by rw [h])
theorem cn_b {c : Nat} {v m : Int} (hm : 0 ≤ m) : 0 ≤ cn c v Z m ∧ cn c v Z m ≤ m := by
  have h := cq_b (Z := Z) (c := c) (v := v) (m := m.toNat)
  unfold cn; omega
theorem cq_u {c : Nat} {v z : Int} {g : Nat} (hE : Z2 = up Z c (g : Int) z) (h1 : Z c (g : Int) = v) (h2 : ¬ z = v) : ∀ {m : Nat}, g < m → cq c v Z2 m = cq c v Z m - 1
  | 0, h => absurd h (Nat.not_lt_zero _)
  | m + 1, h => by
    show cq c v Z2 m + _ = cq c v Z m + _ - 1
    by_cases hg : g = m
    · subst hg
      rw [cq_c (Z := Z) (Z2 := Z2) (fun i hi => by rw [up_ni hE (by omega)]), up_at hE, if_neg h2, if_pos h1]; omega
    · rw [cq_u hE h1 h2 (by omega), up_ni (k := c) (i := (m : Int)) hE (by omega)]; omega
/-- an entry that was v isn't any more -/
theorem cn_u {c : Nat} {v z g m : Int} (hE : Z2 = up Z c g z) (h1 : Z c g = v) (h2 : ¬ z = v) (hg : 0 ≤ g ∧ g < m) : cn c v Z2 m = cn c v Z m - 1 := by
  have e : ((g.toNat : Nat) : Int) = g := Int.toNat_of_nonneg hg.1
  rw [← e] at hE h1
  exact cq_u hE h1 h2 (by omega)
theorem cn_p {c : Nat} {v g m : Int} (h1 : Z c g = v) (hg : 0 ≤ g ∧ g < m) : 1 ≤ cn c v Z m := by
  have h := cn_u (Z := Z) (Z2 := up Z c g (v + 1)) rfl h1 (by omega) hg
  have := (cn_b (Z := up Z c g (v + 1)) (c := c) (v := v) (m := m) (by omega)).1
  omega
theorem cn_all {c : Nat} {v : Int} : ∀ {m : Nat}, (∀ i : Nat, i < m → Z c (i : Int) = v) → cq c v Z m = (m : Int)
  | 0, _ => rfl
  | m + 1, h => by
    show cq c v Z m + _ = _
    rw [cn_all (fun i hi => h i (by omega)), if_pos (h m (by omega))]; omega
theorem cn_a {c : Nat} {v m len : Int} (h : ai c Z len v v = 1) (hm : 0 ≤ m ∧ m ≤ len) : cn c v Z m = m := by
  have hb := ai_b h
  have := cn_all (Z := Z) (c := c) (v := v) (m := m.toNat) (fun i hi => by have := hb (i : Int) (by omega) (by omega); omega)
  unfold cn; omega
/-- the sum of the first entries -/
noncomputable def sq (c : Nat) (Z : xZ) (m : Nat) : Int := Nat.rec (motive := fun _ => Int) 0 (fun i r => r + Z c (i : Int)) m
noncomputable def sn (c : Nat) (Z : xZ) (m : Int) : Int := sq c Z m.toNat
theorem sq_c {c : Nat} : ∀ {m : Nat}, (∀ i : Nat, i < m → Z2 c (i : Int) = Z c (i : Int)) → sq c Z2 m = sq c Z m
  | 0, _ => rfl
  | m + 1, h => by
    show sq c Z2 m + _ = sq c Z m + _
    rw [sq_c (fun i hi => h i (by omega)), h m (by omega)]
theorem sn_c {c : Nat} {m : Int} (h : ∀ i, Z2 c i = Z c i) : sn c Z2 m = sn c Z m := sq_c (fun i _ => h _)
theorem sq_u {c : Nat} {z : Int} {g : Nat} (hE : Z2 = up Z c (g : Int) z) : ∀ {m : Nat}, g < m → sq c Z2 m = sq c Z m - Z c (g : Int) + z
  | 0, h => absurd h (Nat.not_lt_zero _)
  | m + 1, h => by
    show sq c Z2 m + _ = sq c Z m + _ - _ + _
    by_cases hg : g = m
    · subst hg
      rw [sq_c (Z := Z) (Z2 := Z2) (fun i hi => up_ni hE (by omega)), up_at hE]; omega
    · rw [sq_u hE (by omega), up_ni (k := c) (i := (m : Int)) hE (by omega)]; omega
theorem sn_u {c : Nat} {z g m : Int} (hE : Z2 = up Z c g z) (hg : 0 ≤ g ∧ g < m) : sn c Z2 m = sn c Z m - Z c g + z := by
  have e : ((g.toNat : Nat) : Int) = g := Int.toNat_of_nonneg hg.1
  rw [← e] at hE
  have := sq_u (m := m.toNat) hE (by omega)
  rw [e] at this
  exact this
theorem sn_p {c : Nat} {m : Int} (h : ∀ i, 0 ≤ Z c i) : 0 ≤ sn c Z m := by
  unfold sn
  induction m.toNat with
  | zero => exact Int.le_refl _
  | succ q ih => show 0 ≤ sq c Z q + _; have := h (q : Int); omega
/-- how far by a deed: then is 73, far 74 -/
noncomputable def fb (Z : xZ) (s d : Int) : Int := @ite _ (Z 73 (19 * s + d) = -1 ∨ Z 74 (Z 73 (19 * s + d)) = 268435456) (Classical.propDecidable _) 268435456 (Z 74 (Z 73 (19 * s + d)) + 1)
theorem fb_c {s d : Int} (h1 : ∀ i, Z2 73 i = Z 73 i) (h2 : ∀ i, Z2 74 i = Z 74 i) : fb Z2 s d = fb Z s d := by
  unfold fb; rw [show Z2 73 = Z 73 from funext h1, show Z2 74 = Z 74 from funext h2]
theorem fb_e (Z : xZ) (s d : Int) : ((Z 73 (19 * s + d) = -1 ∨ Z 74 (Z 73 (19 * s + d)) = 268435456) ∧ fb Z s d = 268435456) ∨ (¬ Z 73 (19 * s + d) = -1 ∧ ¬ Z 74 (Z 73 (19 * s + d)) = 268435456 ∧ fb Z s d = Z 74 (Z 73 (19 * s + d)) + 1) := by
  by_cases hq : Z 73 (19 * s + d) = -1 ∨ Z 74 (Z 73 (19 * s + d)) = 268435456
  · exact Or.inl ⟨hq, if_pos hq⟩
  · exact Or.inr ⟨fun e => hq (Or.inl e), fun e => hq (Or.inr e), if_neg hq⟩
/-- the same by the other's row -/
noncomputable def fc (Z : xZ) (s d : Int) : Int := @ite _ (Z 73 (19 * s + d) = -1 ∨ Z 75 (Z 73 (19 * s + d)) = 268435456) (Classical.propDecidable _) 268435456 (Z 75 (Z 73 (19 * s + d)) + 1)
theorem fc_c {s d : Int} (h1 : ∀ i, Z2 73 i = Z 73 i) (h2 : ∀ i, Z2 75 i = Z 75 i) : fc Z2 s d = fc Z s d := by
  unfold fc; rw [show Z2 73 = Z 73 from funext h1, show Z2 75 = Z 75 from funext h2]
theorem fc_e (Z : xZ) (s d : Int) : ((Z 73 (19 * s + d) = -1 ∨ Z 75 (Z 73 (19 * s + d)) = 268435456) ∧ fc Z s d = 268435456) ∨ (¬ Z 73 (19 * s + d) = -1 ∧ ¬ Z 75 (Z 73 (19 * s + d)) = 268435456 ∧ fc Z s d = Z 75 (Z 73 (19 * s + d)) + 1) := by
  by_cases hq : Z 73 (19 * s + d) = -1 ∨ Z 75 (Z 73 (19 * s + d)) = 268435456
  · exact Or.inl ⟨hq, if_pos hq⟩
  · exact Or.inr ⟨fun e => hq (Or.inl e), fun e => hq (Or.inr e), if_neg hq⟩
/-- each is far, at the end, or some deed brings it there as soon -/
def FU (Z : xZ) (m : Int) : Prop := ∀ s : Int, 0 ≤ s → s < m → (Z 74 s = 268435456 ∨ Z 74 s = 0 ∨ ∃ d : Int, 0 ≤ d ∧ d ≤ 18 ∧ fb Z s d ≤ Z 74 s)
noncomputable def fu (Z : xZ) (m : Int) : Int := @ite _ (FU Z m) (Classical.propDecidable _) 1 0
theorem fu_c {m : Int} (h1 : ∀ i, Z2 73 i = Z 73 i) (h2 : ∀ i, Z2 74 i = Z 74 i) : fu Z2 m = fu Z m := by
  unfold fu FU fb; rw [show Z2 73 = Z 73 from funext h1, show Z2 74 = Z 74 from funext h2]
theorem fu_b {m : Int} (h : fu Z m = 1) : FU Z m := by
  unfold fu at h
  by_cases hq : FU Z m
  · exact hq
  · rw [if_neg hq] at h; cases h
theorem fu_0 {m len : Int} (hm : m ≤ len) (h : ∀ i, 0 ≤ i → i < len → (Z 74 i = 0 ∨ Z 74 i = 268435456)) : fu Z m = 1 := if_pos (fun s h0 h1 => by
  rcases h s h0 (by omega) with e | e
  · exact Or.inr (Or.inl e)
  · exact Or.inl e)
theorem fb_le {s d g z : Int} (hE : Z2 = up Z 74 g z) (hb : ∀ i, 0 ≤ Z 74 i ∧ Z 74 i ≤ 268435456) (hz : 0 ≤ z ∧ z < Z 74 g) : fb Z2 s d ≤ fb Z s d := by
  have e3 : Z2 73 (19 * s + d) = Z 73 (19 * s + d) := up_nk hE rfl
  have h1 := fb_e Z s d
  have h2 := fb_e Z2 s d
  rw [e3] at h2
  have h3 := hb (Z 73 (19 * s + d))
  have h4 := hb g
  by_cases hq : Z 73 (19 * s + d) = g
  · rw [hq] at h1 h2 h3
    rw [up_at hE] at h2
    omega
  · rw [up_ni hE hq] at h2
    omega
theorem fu_u {m s d : Int} (h : fu Z m = 1) (hE : Z2 = up Z 74 s (fb Z s d)) (hl : fb Z s d < Z 74 s) (hs : 0 ≤ s ∧ s < m) (hd : 0 ≤ d ∧ d ≤ 18) (hb : ∀ i, 0 ≤ Z 74 i ∧ Z 74 i ≤ 268435456) : fu Z2 m = 1 := by
  have hF := fu_b h
  have hz : 0 ≤ fb Z s d ∧ fb Z s d < Z 74 s := by
    have h1 := fb_e Z s d
    have h3 := hb (Z 73 (19 * s + d))
    omega
  refine if_pos (fun q q0 q1 => ?_)
  by_cases hq : q = s
  · subst hq
    refine Or.inr (Or.inr ⟨d, hd.1, hd.2, ?_⟩)
    rw [up_at hE]
    exact fb_le hE hb hz
  · rw [up_ni hE hq]
    rcases hF q q0 q1 with e | e | ⟨d2, e1, e2, e3⟩
    · exact Or.inl e
    · exact Or.inr (Or.inl e)
    · exact Or.inr (Or.inr ⟨d2, e1, e2, Int.le_trans (fb_le hE hb hz) e3⟩)
/-- no deed of those that were tried brings one there sooner: all deeds of the stands below s, those below d of s -/
def FL (Z : xZ) (s d : Int) : Prop := ∀ q e : Int, 0 ≤ q → 0 ≤ e → e ≤ 18 → (q < s ∨ (q = s ∧ e < d)) → Z 74 q ≤ fb Z q e
noncomputable def fl' (Z : xZ) (s d : Int) : Int := @ite _ (FL Z s d) (Classical.propDecidable _) 1 0
theorem fl_c {s d : Int} (h1 : ∀ i, Z2 73 i = Z 73 i) (h2 : ∀ i, Z2 74 i = Z 74 i) : fl' Z2 s d = fl' Z s d := by
  unfold fl' FL fb; rw [show Z2 73 = Z 73 from funext h1, show Z2 74 = Z 74 from funext h2]
theorem fl_b {s d : Int} (h : fl' Z s d = 1) : FL Z s d := by
  unfold fl' at h
  by_cases hq : FL Z s d
  · exact hq
  · rw [if_neg hq] at h; cases h
theorem fl_0 {s d : Int} (hs : s ≤ 0) (hd : d ≤ 0) : fl' Z s d = 1 := if_pos (fun q e q0 e0 e1 h => by omega)
theorem fl_s {s d d2 : Int} (h : fl' Z s d = 1) (hl : Z 74 s ≤ fb Z s d) (h2 : d2 = d + 1) : fl' Z s d2 = 1 := if_pos (fun q e q0 e0 e1 hq => by
  by_cases hc : q < s ∨ (q = s ∧ e < d)
  · exact fl_b h q e q0 e0 e1 hc
  · have h3 : q = s := by omega
    have h4 : e = d := by omega
    rw [h3, h4]; exact hl)
theorem fl_n {s d s2 : Int} (h : fl' Z s d = 1) (hd : 19 ≤ d) (h2 : s2 = s + 1) : fl' Z s2 0 = 1 := if_pos (fun q e q0 e0 e1 hq => fl_b h q e q0 e0 e1 (by omega))
theorem fl_m {s s2 d : Int} (h : fl' Z s d = 1) (h2 : s2 ≤ s) (hd : 0 ≤ d) : fl' Z s2 0 = 1 := if_pos (fun q e q0 e0 e1 hq => fl_b h q e q0 e0 e1 (by omega))
/-- none of the first deeds is the one -/
def NF (Z : xZ) (s d : Int) : Prop := ∀ e : Int, 0 ≤ e → e < d → ¬ fb Z s e = Z 74 s
theorem nf_0 {s d : Int} (h : d ≤ 0) : NF Z s d := fun e e0 e1 => absurd e1 (by omega)
theorem nf_s {s d : Int} (h : NF Z s d) (hn : ¬ fb Z s d = Z 74 s) : NF Z s (d + 1) := fun e e0 e1 => by
  by_cases he : e = d
  · rw [he]; exact hn
  · exact h e e0 (by omega)
theorem nf_l {m s d : Int} (h1 : fu Z m = 1) (h2 : fl' Z m 0 = 1) (hn : NF Z s d) (hs : 0 ≤ s ∧ s < m) (h0 : 0 < Z 74 s) (h3 : Z 74 s < 268435456) : d ≤ 18 := by
  rcases fu_b h1 s hs.1 hs.2 with e | e | ⟨d2, e1, e2, e3⟩
  · omega
  · omega
  · have h4 := fl_b h2 s d2 hs.1 e1 e2 (Or.inl hs.2)
    by_cases hd : d ≤ 18
    · exact hd
    · exact absurd (Int.le_antisymm e3 h4) (hn d2 e1 (by omega))
/-- how many heaps -/
def mnr (f : Int → Int) : Nat → Int → Int
  | 0, k => k
  | m + 1, k => if 0 < f k then mnr f m (k + 1) else k
def mnk (Z : xZ) (s k : Int) : Int := mnr (fun j => Z 61 (18 * s + j)) (18 - k).toNat k
def mn (Z : xZ) (s : Int) : Int := mnk Z s 0
theorem mn_c {s : Int} (h : ∀ i, Z2 61 i = Z 61 i) : mn Z2 s = mn Z s := by
  unfold mn mnk; rw [show Z2 61 = Z 61 from funext h]
theorem mn_s {s k : Int} (hk : 0 ≤ k ∧ k < 18) (h : 0 < Z 61 (18 * s + k)) : mnk Z s k = mnk Z s (k + 1) := by
  unfold mnk
  rw [show (18 - k).toNat = (18 - (k + 1)).toNat + 1 by omega]
  exact if_pos h
theorem mn_x {s k : Int} (hk : 0 ≤ k ∧ k ≤ 18) (h : k = 18 ∨ ¬ 0 < Z 61 (18 * s + k)) : mnk Z s k = k := by
  unfold mnk
  by_cases he : k = 18
  · rw [show (18 - k).toNat = 0 by omega]; rfl
  · rw [show (18 - k).toNat = (18 - (k + 1)).toNat + 1 by omega]
    exact if_neg (by rcases h with h | h; exact absurd h he; exact h)
/-- whether a moon's end is as it was counted -/
noncomputable def io (Z : xZ) (t i to : Int) : Int := @ite _ (¬ to = -1 ∧ (Z 82 (40 * t + i) = -1 ∨ Z 82 (40 * t + i) = mn Z to)) (Classical.propDecidable _) 1 0
theorem io_c {t i to : Int} (h1 : ∀ i, Z2 61 i = Z 61 i) (h2 : ∀ i, Z2 82 i = Z 82 i) : io Z2 t i to = io Z t i to := by
  unfold io mn mnk; rw [show Z2 61 = Z 61 from funext h1, show Z2 82 = Z 82 from funext h2]
theorem io_e (Z : xZ) (t i to : Int) : (io Z t i to = 1 ∧ ¬ to = -1 ∧ (Z 82 (40 * t + i) = -1 ∨ Z 82 (40 * t + i) = mn Z to)) ∨ (io Z t i to = 0 ∧ (to = -1 ∨ (¬ Z 82 (40 * t + i) = -1 ∧ ¬ Z 82 (40 * t + i) = mn Z to))) := by
  by_cases hq : ¬ to = -1 ∧ (Z 82 (40 * t + i) = -1 ∨ Z 82 (40 * t + i) = mn Z to)
  · exact Or.inl ⟨if_pos hq, hq⟩
  · exact Or.inr ⟨if_neg hq, by omega⟩
/-- a deed that goes on: then is 73, on 78 -/
def GO (Z : xZ) (t i s d : Int) : Prop := io Z t i (Z 73 (19 * s + d)) = 1 ∧ ¬ Z 78 (385 * (i + 1) + Z 73 (19 * s + d)) = 0
def SG (Z : xZ) (t i s d v : Int) : Prop := ¬ v = 0 → ∃ e : Int, 0 ≤ e ∧ e < d ∧ GO Z t i s e
theorem sg_0 {t i s d : Int} : SG Z t i s d 0 := fun h => absurd rfl h
theorem sg_s {t i s d v v2 : Int} (h : SG Z t i s d v) (h0 : 0 ≤ d) (h2 : ¬ v2 = 0 → (¬ v = 0 ∨ GO Z t i s d)) : SG Z t i s (d + 1) v2 := fun hv => by
  rcases h2 hv with h3 | h3
  · obtain ⟨e, e0, e1, e2⟩ := h h3
    exact ⟨e, e0, by omega, e2⟩
  · exact ⟨d, h0, by omega, h3⟩
def OC (Z : xZ) (t m n i0 s0 : Int) : Prop := ∀ i s : Int, 0 ≤ i → i < n → 0 ≤ s → s < m → (i0 < i ∨ (i = i0 ∧ s < s0)) → SG Z t i s 19 (Z 78 (385 * i + s))
theorem GO_u {t i s d g v : Int} (hE : Z2 = up Z 78 g v) (hg : g < 385 * (i + 1)) (h73 : ∀ i, -1 ≤ Z 73 i) (h : GO Z t i s d) : GO Z2 t i s d := by
  have e3 : Z2 73 (19 * s + d) = Z 73 (19 * s + d) := up_nk hE rfl
  have hi := h.1
  have h7 := h73 (19 * s + d)
  have he := io_e Z t i (Z 73 (19 * s + d))
  unfold GO
  rw [e3, io_c (Z := Z) (fun i => up_nk hE rfl) (fun i => up_nk hE rfl), up_ni hE (by omega)]
  exact h
theorem SG_u {t i s d g v w : Int} (hE : Z2 = up Z 78 g v) (hg : g < 385 * (i + 1)) (h73 : ∀ i, -1 ≤ Z 73 i) (h : SG Z t i s d w) : SG Z2 t i s d w := fun hw => by
  obtain ⟨e, e0, e1, e2⟩ := h hw
  exact ⟨e, e0, e1, GO_u hE hg h73 e2⟩
theorem OC_s {t m n i s v s2 : Int} (h : OC Z t m n i s) (hE : Z2 = up Z 78 (385 * i + s) v) (hs : 0 ≤ s ∧ s < 385) (hi : 0 ≤ i) (hm : m ≤ 385) (h73 : ∀ i, -1 ≤ Z 73 i) (hv : SG Z t i s 19 v) (h2 : s2 = s + 1) : OC Z2 t m n i s2 := fun a b a0 a1 b0 b1 hq => by
  by_cases he : a = i ∧ b = s
  · obtain ⟨h3, h4⟩ := he
    subst h3; subst h4
    rw [up_at hE]
    exact SG_u hE (by omega) h73 hv
  · rw [up_ni hE (by omega)]
    exact SG_u hE (by omega) h73 (h a b a0 a1 b0 b1 (by omega))
theorem OC_0 {t m n i : Int} (hi : n - 1 ≤ i) : OC Z t m n i 0 := fun a b a0 a1 b0 b1 hq => absurd hq (by omega)
theorem OC_n {t m n i s i2 : Int} (h : OC Z t m n i s) (hs : m ≤ s) (h2 : i2 = i - 1) : OC Z t m n i2 0 := fun a b a0 a1 b0 b1 hq => h a b a0 a1 b0 b1 (by omega)
noncomputable def oc (Z : xZ) (t m n i s : Int) : Int := @ite _ (OC Z t m n i s) (Classical.propDecidable _) 1 0
theorem oc_y {t m n i s : Int} (h : OC Z t m n i s) : oc Z t m n i s = 1 := if_pos h
theorem oc_b {t m n i s : Int} (h : oc Z t m n i s = 1) : OC Z t m n i s := by
  unfold oc at h
  by_cases hq : OC Z t m n i s
  · exact hq
  · rw [if_neg hq] at h; cases h
def ND (Z : xZ) (t i s d : Int) : Prop := ∀ e : Int, 0 ≤ e → e < d → ¬ GO Z t i s e
theorem nd_0 {t i s d : Int} (h : d ≤ 0) : ND Z t i s d := fun e e0 e1 => absurd e1 (by omega)
theorem nd_s {t i s d : Int} (h : ND Z t i s d) (hn : ¬ GO Z t i s d) : ND Z t i s (d + 1) := fun e e0 e1 => by
  by_cases he : e = d
  · rw [he]; exact hn
  · exact h e e0 (by omega)
theorem nd_l {t m n i s d : Int} (h : oc Z t m n (-1) 0 = 1) (hn : ND Z t i s d) (hi : 0 ≤ i ∧ i < n) (hs : 0 ≤ s ∧ s < m) (h0 : ¬ Z 78 (385 * i + s) = 0) : d ≤ 18 := by
  obtain ⟨e, e0, e1, e2⟩ := oc_b h i s hi.1 hi.2 hs.1 hs.2 (Or.inl (by omega)) h0
  by_cases hd : d ≤ 18
  · exact hd
  · exact absurd e2 (hn e e0 (by omega))
/-- an image is made: a block from off on is as the first; one is taken back -/
def CP (Z2 Z : xZ) (off k : Int) : Prop := ∀ i : Int, Z2 57 i = if off ≤ i ∧ i < off + k then Z 57 (i - off) else Z 57 i
theorem cp_0 {off : Int} : CP Z Z off 0 := fun i => (if_neg (by omega)).symm
theorem cp_s {Z3 : xZ} {off k g z : Int} (h : CP Z2 Z off k) (hE : Z3 = up Z2 57 g z) (hg : g = off + k) (hz : z = Z2 57 k) (hk : 0 ≤ k ∧ k < off) : CP Z3 Z off (k + 1) := fun i => by
  have e : Z2 57 k = Z 57 k := (h k).trans (if_neg (by omega))
  by_cases hi : i = g
  · rw [hi, up_at hE, if_pos (by omega), hz, e]; congr 1; omega
  · rw [up_ni hE hi, h i]
    by_cases hc : off ≤ i ∧ i < off + k
    · rw [if_pos hc, if_pos (by omega)]
    · rw [if_neg hc, if_neg (by omega)]
theorem cp_c {Z3 : xZ} {off k : Int} (h : CP Z2 Z off k) (e : ∀ i, Z3 57 i = Z2 57 i) : CP Z3 Z off k := fun i => (e i).trans (h i)
theorem im_fin {n : Nat} {S : Nat → xS} {off : Int} (hG : GI n S Z) (ho : off = 962 ∨ off = 1924) (hc : CP Z2 Z off 962) (h7 : Z2 7 5 = Z 7 5) (h9 : ∀ i, Z2 9 i = Z 9 i) (h10 : ∀ i, Z2 10 i = Z 10 i) (h56 : Z2 56 18 = Z 56 18) : SM Z2 ∧ WF Z2 ∧ ST Z2 := by
  obtain ⟨w1, w2, w3⟩ := GI_wf hG
  obtain ⟨t0, t1, t2, t3⟩ := GI_stt hG
  have lo : ∀ i : Int, i < off → Z2 57 i = Z 57 i := fun i hi => (hc i).trans (if_neg (by omega))
  have hi : ∀ i : Int, off + 962 ≤ i → Z2 57 i = Z 57 i := fun i hi => (hc i).trans (if_neg (by omega))
  have mi : ∀ i : Int, 0 ≤ i → i < 962 → Z2 57 (off + i) = Z 57 i := fun i h0 h1 => by
    rw [hc, if_pos (by omega)]; congr 1; omega
  have e1 := lo 1 (by omega)
  refine ⟨SM_c h7 h9 h10 (GI_sm hG), ?_, by rw [h56, e1]; exact t0, ?_⟩
  · rcases ho with h | h <;> subst h
    · exact ⟨wfb_c (fun i q => lo i (by omega)) w1, wfb_c (fun i q => mi i (by omega) (by omega)) w1, wfb_c (fun i q => hi _ (by omega)) w3⟩
    · exact ⟨wfb_c (fun i q => lo i (by omega)) w1, wfb_c (fun i q => lo _ (by omega)) w2, wfb_c (fun i q => mi i (by omega) (by omega)) w1⟩
  · rcases ho with h | h <;> subst h
    · exact ⟨stb_c (fun i q => lo i (by omega)) t1, stb_c (fun i q => mi i (by omega) (by omega)) t1, stb_c (fun i q => hi _ (by omega)) t3⟩
    · exact ⟨stb_c (fun i q => lo i (by omega)) t1, stb_c (fun i q => lo _ (by omega)) t2, stb_c (fun i q => mi i (by omega) (by omega)) t1⟩
def CR (Z2 Z : xZ) (off k : Int) : Prop := ∀ i : Int, Z2 57 i = if 0 ≤ i ∧ i < k then Z 57 (off + i) else Z 57 i
theorem crx_0 {off : Int} : CR Z Z off 0 := fun i => (if_neg (by omega)).symm
theorem crx_s {Z3 : xZ} {off k g z : Int} (h : CR Z2 Z off k) (hE : Z3 = up Z2 57 g z) (hg : g = k) (hz : z = Z2 57 (off + k)) (hk : 0 ≤ k ∧ k < off) : CR Z3 Z off (k + 1) := fun i => by
  have e : Z2 57 (off + k) = Z 57 (off + k) := (h _).trans (if_neg (by omega))
  subst hg
  by_cases hi : i = g
  · rw [hi, up_at hE, if_pos (by omega), hz, e]
  · rw [up_ni hE hi, h i]
    by_cases hc : 0 ≤ i ∧ i < g
    · rw [if_pos hc, if_pos (by omega)]
    · rw [if_neg hc, if_neg (by omega)]
theorem re_fin {n : Nat} {S : Nat → xS} {Z3 : xZ} {off : Int} (hG : GI n S Z) (ho : off = 962 ∨ off = 1924) (hc : CR Z2 Z off 962) (h30 : ∀ i, ¬ i = 30 → Z3 57 i = Z2 57 i) (h7 : Z3 7 5 = Z 7 5) (h9 : ∀ i, Z3 9 i = Z 9 i) (h10 : ∀ i, Z3 10 i = Z 10 i) (h56 : Z3 56 18 = wy (Z3 57 1 * 19 + Z3 57 1)) : SM Z3 ∧ WF Z3 ∧ ST Z3 := by
  obtain ⟨w1, w2, w3⟩ := GI_wf hG
  obtain ⟨t0, t1, t2, t3⟩ := GI_stt hG
  have hi : ∀ i : Int, 962 ≤ i → Z3 57 i = Z 57 i := fun i hi => by rw [h30 i (by omega), hc i, if_neg (by omega)]
  have mi : ∀ i : Int, 0 ≤ i → i < 962 → ¬ i = 30 → Z3 57 i = Z 57 (off + i) := fun i h0 h1 h2 => by rw [h30 i h2, hc i, if_pos (by omega)]
  refine ⟨SM_c h7 h9 h10 (GI_sm hG), ⟨?_, wfb_c (fun i q => hi _ (by omega)) w2, wfb_c (fun i q => hi _ (by omega)) w3⟩, h56, ?_, stb_c (fun i q => hi _ (by omega)) t2, stb_c (fun i q => hi _ (by omega)) t3⟩
  · rcases ho with h | h <;> subst h
    · exact wfb_c (fun i q => mi i (by omega) (by omega) (by omega)) w2
    · exact wfb_c (fun i q => mi i (by omega) (by omega) (by omega)) w3
  · rcases ho with h | h <;> subst h
    · exact stb_c (fun i q => mi i (by omega) (by omega) (by omega)) t2
    · exact stb_c (fun i q => mi i (by omega) (by omega) (by omega)) t3
/-- codes that are read: 60 is the row in which a barn is read, 61 how many codes there are -/
noncomputable def DP (Z : xZ) (a : Int) : Int := dpf (fun i => Z 60 (62 + i)) a (Z 60 61 - a).toNat
def MWp (Z : xZ) (a : Int) : Prop := 0 ≤ a ∧ a ≤ Z 60 61 ∧ wsf (fun i => Z 60 (62 + i)) a (Z 60 61 - a).toNat
noncomputable def MW (Z : xZ) (a : Int) : Int := @ite _ (MWp Z a) (Classical.propDecidable _) 1 0
def WFp (Z : xZ) : Prop := (0 ≤ Z 60 28 ∧ Z 60 28 ≤ 9) ∧ (∀ r : Int, (r = 27 ∨ (31 ≤ r ∧ r ≤ 60)) → Z 60 r = 0) ∧ ∀ w : Int, (w = 0 ∨ w = 1) → Z 60 (21 + w) = 1 → (0 ≤ Z 60 (23 + w) ∧ 0 ≤ Z 60 (25 + w) ∧ Z 60 (23 + w) + Z 60 (25 + w) ≤ Z 60 61 ∧ wsf (fun i => Z 60 (62 + i)) (Z 60 (23 + w)) (Z 60 (25 + w)).toNat)
noncomputable def WFF (Z : xZ) : Int := @ite _ (WFp Z) (Classical.propDecidable _) 1 0
theorem DP_c {a : Int} (h : ∀ i, Z2 60 i = Z 60 i) : DP Z2 a = DP Z a := by unfold DP; rw [show Z2 60 = Z 60 from funext h]
theorem MW_c {a : Int} (h : ∀ i, Z2 60 i = Z 60 i) : MW Z2 a = MW Z a := by unfold MW MWp; rw [show Z2 60 = Z 60 from funext h]
theorem WFF_c (h : ∀ i, Z2 60 i = Z 60 i) : WFF Z2 = WFF Z := by unfold WFF WFp; rw [show Z2 60 = Z 60 from funext h]
theorem MW_b {a : Int} (h : MW Z a = 1) : MWp Z a := by
  unfold MW at h
  by_cases hq : MWp Z a
  · exact hq
  · rw [if_neg hq] at h; cases h
theorem WFF_b (h : WFF Z = 1) : WFp Z := by
  unfold WFF at h
  by_cases hq : WFp Z
  · exact hq
  · rw [if_neg hq] at h; cases h
theorem MW_0 {a : Int} (h : a = Z 60 61) (h0 : 0 ≤ a) : MW Z a = 1 ∧ DP Z a = 0 := by
  have e : (Z 60 61 - a).toNat = 0 := by omega
  have hp : MWp Z a := ⟨h0, by omega, by rw [e]; exact fun j hj => absurd hj (Nat.not_lt_zero _)⟩
  refine ⟨if_pos hp, ?_⟩
  unfold DP
  rw [e]
  rfl
theorem dpf_s {f : Int → Int} {a : Int} {n : Nat} : dpf f a (n + 1) = dpf f a n + dl (f (a + (n : Int))) := rfl
/-- a code more -/
theorem cd_dp {Z1 : xZ} {a c : Int} (h1 : Z1 = up Z 60 (62 + Z 60 61) c) (h2 : Z2 = up Z1 60 61 (Z 60 61 + 1)) (ha : a ≤ Z 60 61) (hn : 0 ≤ a) : DP Z2 a = DP Z a + dl c := by
  have e61 : Z2 60 61 = Z 60 61 + 1 := up_at h2
  have el : ∀ i : Int, i < Z 60 61 → 0 ≤ i → Z2 60 (62 + i) = Z 60 (62 + i) := fun i hi h0 => by rw [up_ni h2 (by omega), up_ni h1 (by omega)]
  have ec : Z2 60 (62 + Z 60 61) = c := by rw [up_ni h2 (by omega), up_at h1]
  unfold DP
  rw [e61, show (Z 60 61 + 1 - a).toNat = (Z 60 61 - a).toNat + 1 by omega, dpf_s]
  rw [show a + ((Z 60 61 - a).toNat : Int) = Z 60 61 by omega]
  show _ + dl (Z2 60 (62 + Z 60 61)) = _
  rw [ec, dpf_c (f := fun i => Z 60 (62 + i)) (fun j hj => el _ (by omega) (by omega))]
theorem cd_mw {Z1 : xZ} {a c : Int} (h1 : Z1 = up Z 60 (62 + Z 60 61) c) (h2 : Z2 = up Z1 60 61 (Z 60 61 + 1)) (h : MW Z a = 1) (hc : okc c) (hd : nd c ≤ DP Z a) : MW Z2 a = 1 := by
  obtain ⟨m0, m1, m2⟩ := MW_b h
  have e61 : Z2 60 61 = Z 60 61 + 1 := up_at h2
  have el : ∀ i : Int, i < Z 60 61 → 0 ≤ i → Z2 60 (62 + i) = Z 60 (62 + i) := fun i hi h0 => by rw [up_ni h2 (by omega), up_ni h1 (by omega)]
  have ec : Z2 60 (62 + Z 60 61) = c := by rw [up_ni h2 (by omega), up_at h1]
  refine if_pos ⟨m0, by omega, fun j hj => ?_⟩
  rw [e61] at hj
  have ed : dpf (fun i => Z2 60 (62 + i)) a j = dpf (fun i => Z 60 (62 + i)) a j := dpf_c (fun q hq => el _ (by omega) (by omega))
  rw [ed]
  by_cases hl : j < (Z 60 61 - a).toNat
  · show okc (Z2 60 (62 + (a + (j : Int)))) ∧ nd (Z2 60 (62 + (a + (j : Int)))) ≤ _
    rw [el _ (by omega) (by omega)]
    exact m2 j hl
  · have hj2 : j = (Z 60 61 - a).toNat := by omega
    show okc (Z2 60 (62 + (a + (j : Int)))) ∧ nd (Z2 60 (62 + (a + (j : Int)))) ≤ _
    rw [show a + (j : Int) = Z 60 61 by omega, ec]
    refine ⟨hc, ?_⟩
    rw [hj2]; exact hd
theorem cd_wf {Z1 : xZ} {c : Int} (h1 : Z1 = up Z 60 (62 + Z 60 61) c) (h2 : Z2 = up Z1 60 61 (Z 60 61 + 1)) (hn : 0 ≤ Z 60 61) (h : WFF Z = 1) : WFF Z2 = 1 := by
  have e61 : Z2 60 61 = Z 60 61 + 1 := up_at h2
  have eo : ∀ i : Int, i < 61 → Z2 60 i = Z 60 i := fun i hi => by rw [up_ni h2 (by omega), up_ni h1 (by omega)]
  have el : ∀ i : Int, i < Z 60 61 → 0 ≤ i → Z2 60 (62 + i) = Z 60 (62 + i) := fun i hi h0 => by rw [up_ni h2 (by omega), up_ni h1 (by omega)]
  obtain ⟨g1, g2, g3⟩ := WFF_b h
  refine if_pos ⟨by rw [eo 28 (by decide)]; exact g1, fun r hr => by rw [eo r (by omega)]; exact g2 r hr, fun w hw e => ?_⟩
  rw [eo _ (by omega)] at e
  obtain ⟨q1, q2, q3, q4⟩ := g3 w hw e
  rw [eo (23 + w) (by omega), eo (25 + w) (by omega)]
  exact ⟨q1, q2, by omega, wsf_c (fun j hj => el _ (by omega) (by omega)) q4⟩
theorem dl_e (c : Int) : (c < 3000 → dl c = 1 ∧ nd c = 0) ∧ (c = 3006 → dl c = 0 ∧ nd c = 1) ∧ (c = 3009 → dl c = -2 ∧ nd c = 3) ∧ (3000 ≤ c → ¬ c = 3006 → ¬ c = 3009 → dl c = -1 ∧ nd c = 2) := by
  unfold dl nd
  refine ⟨fun h => ?_, fun h => ?_, fun h => ?_, fun h h1 h2 => ?_⟩
  · rw [if_pos h, if_pos h]; exact ⟨rfl, rfl⟩
  · subst h; exact ⟨rfl, rfl⟩
  · subst h; exact ⟨rfl, rfl⟩
  · rw [if_neg (by omega), if_neg h1, if_neg h2, if_neg (by omega), if_neg h1, if_neg h2]; exact ⟨rfl, rfl⟩
theorem wf_o {g z : Int} (hE : Z2 = up Z 60 g z) (hg : g ≤ 20) : WFF Z2 = WFF Z := by
  have e : ∀ i : Int, 21 ≤ i → Z2 60 i = Z 60 i := fun i hi => up_ni hE (by omega)
  have key : ∀ A B : xZ, (∀ i : Int, 21 ≤ i → A 60 i = B 60 i) → WFp B → WFp A := fun A B h hw => by
    obtain ⟨g1, g2, g3⟩ := hw
    refine ⟨by rw [h 28 (by decide)]; exact g1, fun r hr => by rw [h r (by omega)]; exact g2 r hr, fun w hw e => ?_⟩
    rw [h _ (by omega)] at e
    obtain ⟨q1, q2, q3, q4⟩ := g3 w hw e
    rw [h (23 + w) (by omega), h (25 + w) (by omega), h 61 (by decide)]
    exact ⟨q1, q2, q3, wsf_c (fun j hj => h _ (by omega)) q4⟩
  unfold WFF
  by_cases hq : WFp Z
  · rw [if_pos hq, if_pos (key _ _ e hq)]
  · rw [if_neg hq, if_neg (fun h => hq (key Z Z2 (fun i hi => (e i hi).symm) h))]
theorem wf_28 {z : Int} (hE : Z2 = up Z 60 28 z) (hz : 0 ≤ z ∧ z ≤ 9) (h : WFF Z = 1) : WFF Z2 = 1 := by
  obtain ⟨g1, g2, g3⟩ := WFF_b h
  have e : ∀ i : Int, ¬ i = 28 → Z2 60 i = Z 60 i := fun i hi => up_ni hE hi
  refine if_pos ⟨by rw [up_at hE]; exact hz, fun r hr => by rw [e r (by omega)]; exact g2 r hr, fun w hw e1 => ?_⟩
  rw [e _ (by omega)] at e1
  obtain ⟨q1, q2, q3, q4⟩ := g3 w hw e1
  rw [e (23 + w) (by omega), e (25 + w) (by omega), e 61 (by decide)]
  exact ⟨q1, q2, q3, wsf_c (fun j hj => e _ (by omega)) q4⟩
theorem lw_wf {Z1 Z3 : xZ} {w a m : Int} (h1 : Z1 = up Z 60 (21 + w) 1) (h2 : Z2 = up Z1 60 (23 + w) a) (h3 : Z3 = up Z2 60 (25 + w) m) (hm : m = Z 60 61 - a) (hw : w = 0 ∨ w = 1) (hM : MW Z a = 1) (h : WFF Z = 1) : WFF Z3 = 1 := by
  obtain ⟨g1, g2, g3⟩ := WFF_b h
  obtain ⟨m0, m1, m2⟩ := MW_b hM
  have e : ∀ i : Int, ¬ i = 21 + w → ¬ i = 23 + w → ¬ i = 25 + w → Z3 60 i = Z 60 i := fun i i1 i2 i3 => by rw [up_ni h3 i3, up_ni h2 i2, up_ni h1 i1]
  have e23 : Z3 60 (23 + w) = a := by rw [up_ni h3 (by omega), up_at h2]
  have e25 : Z3 60 (25 + w) = m := up_at h3
  have e61 : Z3 60 61 = Z 60 61 := e 61 (by omega) (by omega) (by omega)
  refine if_pos ⟨by rw [e 28 (by omega) (by omega) (by omega)]; exact g1, fun r hr => by rw [e r (by omega) (by omega) (by omega)]; exact g2 r hr, fun v hv ev => ?_⟩
  by_cases hvw : v = w
  · subst hvw
    rw [e23, e25, e61]
    refine ⟨m0, by omega, by omega, ?_⟩
    rw [hm]
    exact wsf_c (fun j hj => e _ (by omega) (by omega) (by omega)) m2
  · rw [e (21 + v) (by omega) (by omega) (by omega)] at ev
    obtain ⟨q1, q2, q3, q4⟩ := g3 v hv ev
    rw [e (23 + v) (by omega) (by omega) (by omega), e (25 + v) (by omega) (by omega) (by omega), e61]
    exact ⟨q1, q2, q3, wsf_c (fun j hj => e _ (by omega) (by omega) (by omega)) q4⟩
theorem wf_z (h : ai 60 Z 962 0 0 = 1) : WFF Z = 1 := by
  have hb := ai_b h
  have e : ∀ i : Int, 0 ≤ i → i < 962 → Z 60 i = 0 := fun i i0 i1 => by have := hb i i0 i1; omega
  exact if_pos ⟨by rw [e 28 (by decide) (by decide)]; decide, fun r hr => e r (by omega) (by omega), fun w hw ew => by rw [e _ (by omega) (by omega)] at ew; cases ew⟩
/-- the barn that was read becomes the barn -/
def CB (Z2 Z : xZ) (k : Int) : Prop := ∀ i : Int, Z2 57 i = if 0 ≤ i ∧ i < k then Z 60 i else Z 57 i
theorem cb_0 : CB Z Z 0 := fun i => (if_neg (by omega)).symm
theorem cb_s {Z3 : xZ} {k g z : Int} (h : CB Z2 Z k) (hE : Z3 = up Z2 57 g z) (hg : g = k) (hz : z = Z 60 k) (hk : 0 ≤ k) : CB Z3 Z (k + 1) := fun i => by
  subst hg
  by_cases hi : i = g
  · rw [hi, up_at hE, if_pos (by omega), hz]
  · rw [up_ni hE hi, h i]
    by_cases hc : 0 ≤ i ∧ i < g
    · rw [if_pos hc, if_pos (by omega)]
    · rw [if_neg hc, if_neg (by omega)]
theorem ba_fin {n : Nat} {S : Nat → xS} {Z3 : xZ} (hG : GI n S Z) (hc : CB Z2 Z 962) (hw : WFF Z = 1) (h61 : Z 60 61 ≤ 900) (h1 : ∀ i, ¬ i = 1 → Z3 57 i = Z2 57 i) (hn : 0 ≤ Z3 57 1 ∧ Z3 57 1 ≤ 18) (h7 : Z3 7 5 = Z 7 5) (h9 : ∀ i, Z3 9 i = Z 9 i) (h10 : ∀ i, Z3 10 i = Z 10 i) (h56 : Z3 56 18 = wy (Z3 57 1 * 19 + Z3 57 1)) : SM Z3 ∧ WF Z3 ∧ ST Z3 := by
  obtain ⟨w1, w2, w3⟩ := GI_wf hG
  obtain ⟨t0, t1, t2, t3⟩ := GI_stt hG
  obtain ⟨g1, g2, g3⟩ := WFF_b hw
  have hi : ∀ i : Int, 962 ≤ i → Z3 57 i = Z 57 i := fun i hi => by rw [h1 i (by omega), hc i, if_neg (by omega)]
  have mi : ∀ i : Int, 0 ≤ i → i < 962 → ¬ i = 1 → Z3 57 i = Z 60 i := fun i h0 h2 h3 => by rw [h1 i h3, hc i, if_pos (by omega)]
  refine ⟨SM_c h7 h9 h10 (GI_sm hG), ⟨fun w hw e => ?_, wfb_c (fun i q => hi _ (by omega)) w2, wfb_c (fun i q => hi _ (by omega)) w3⟩, h56, fun r hr => ?_, stb_c (fun i q => hi _ (by omega)) t2, stb_c (fun i q => hi _ (by omega)) t3⟩
  · replace e : Z3 57 (21 + w) = 1 := e
    rw [mi _ (by omega) (by omega) (by omega)] at e
    obtain ⟨q1, q2, q3, q4⟩ := g3 w hw e
    show 0 ≤ Z3 57 (23 + w) ∧ 0 ≤ Z3 57 (25 + w) ∧ Z3 57 (23 + w) + Z3 57 (25 + w) ≤ 900 ∧ wsf (fun i => Z3 57 (62 + i)) (Z3 57 (23 + w)) (Z3 57 (25 + w)).toNat
    rw [mi (23 + w) (by omega) (by omega) (by omega), mi (25 + w) (by omega) (by omega) (by omega)]
    exact ⟨q1, q2, by omega, wsf_c (fun j hj => mi _ (by omega) (by omega) (by omega)) q4⟩
  · show Z3 57 r < wy (Z3 57 1 * 19 + Z3 57 1)
    rw [mi r (by omega) (by omega) (by omega), g2 r (by omega)]
    have := (W0 hn).1
    omega
end FN
