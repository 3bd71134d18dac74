/-! what a text is, token by token: the reading that class and reference both do, as functions on places -/
section TOKa
noncomputable def fsF (P : Int → Prop) (N : Int) : Nat → Int → Int
  | 0, p => p
  | f + 1, p => @ite _ (p < N ∧ P p) (Classical.propDecidable _) (fsF P N f (p + 1)) p
/-- the first place from p on, below N, of which P doesn't hold -/
noncomputable def fs (P : Int → Prop) (N p : Int) : Int := fsF P N (N - p).toNat p
theorem fs_s {P : Int → Prop} {N p : Int} (h : p < N) (hp : P p) : fs P N p = fs P N (p + 1) := by
  unfold fs
  rw [show (N - p).toNat = (N - (p + 1)).toNat + 1 by omega]
  exact if_pos ⟨h, hp⟩
theorem fs_n {P : Int → Prop} {N p : Int} (h : ¬ (p < N ∧ P p)) : fs P N p = p := by
  unfold fs
  cases (N - p).toNat with
  | zero => rfl
  | succ k => exact if_neg h
theorem fsF_b {P : Int → Prop} {N : Int} : ∀ (f : Nat) (p : Int), f = (N - p).toNat → p ≤ fsF P N f p ∧ (p ≤ N → fsF P N f p ≤ N)
  | 0, p, _ => ⟨Int.le_refl _, fun h => h⟩
  | f + 1, p, hf => by
    by_cases h : p < N ∧ P p
    · rw [show fsF P N (f + 1) p = fsF P N f (p + 1) from if_pos h]
      have q := fsF_b (P := P) (N := N) f (p + 1) (by omega)
      exact ⟨by omega, fun _ => q.2 (by omega)⟩
    · rw [show fsF P N (f + 1) p = p from if_neg h]
      exact ⟨Int.le_refl _, fun h => h⟩
theorem fs_b {P : Int → Prop} {N p : Int} : p ≤ fs P N p ∧ (p ≤ N → fs P N p ≤ N) := fsF_b _ p rfl
theorem fs_at {P : Int → Prop} {N : Int} (p : Int) : fs P N p < N → ¬ P (fs P N p) := by
  have key : ∀ (f : Nat) (p : Int), f = (N - p).toNat → fsF P N f p < N → ¬ P (fsF P N f p) := by
    intro f
    induction f with
    | zero => intro p hf h; exact absurd h (by show ¬ p < N; omega)
    | succ f ih =>
      intro p hf h
      by_cases h1 : p < N ∧ P p
      · have e : fsF P N (f + 1) p = fsF P N f (p + 1) := if_pos h1
        rw [e] at h ⊢
        exact ih (p + 1) (by omega) h
      · have e : fsF P N (f + 1) p = p := if_neg h1
        rw [e] at h ⊢
        exact fun q => h1 ⟨h, q⟩
  exact key _ p rfl
theorem fs_i {P : Int → Prop} {N p : Int} : fs P N (fs P N p) = fs P N p := fs_n (fun q => fs_at p q.1 q.2)
/-- places: blanks, letters, digits -/
def pB (T : Int → Int) (i : Int) : Prop := T i = 10 ∨ T i = 32
def pL (T : Int → Int) (i : Int) : Prop := 97 ≤ T i ∧ T i ≤ 122
def pD (T : Int → Int) (i : Int) : Prop := 48 ≤ T i ∧ T i ≤ 57
noncomputable def tBg (T : Int → Int) (N p : Int) : Int := fs (pB T) N p
noncomputable def tWe (T : Int → Int) (N p : Int) : Int := fs (pL T) N p
noncomputable def tDe (T : Int → Int) (N p : Int) : Int := fs (pD T) N p
end TOKa
section TOKb
variable {T : Int → Int} {N : Int}
theorem tBg_e (p : Int) : (p < N → (T p = 10 ∨ T p = 32) → tBg T N p = tBg T N (p + 1)) ∧ (¬ (p < N ∧ (T p = 10 ∨ T p = 32)) → tBg T N p = p) ∧ p ≤ tBg T N p ∧ (p ≤ N → tBg T N p ≤ N) := ⟨fun a b => fs_s a b, fun h => fs_n h, fs_b.1, fs_b.2⟩
theorem tWe_e (p : Int) : (p < N → 97 ≤ T p → T p ≤ 122 → tWe T N p = tWe T N (p + 1)) ∧ (¬ (p < N ∧ 97 ≤ T p ∧ T p ≤ 122) → tWe T N p = p) ∧ p ≤ tWe T N p ∧ (p ≤ N → tWe T N p ≤ N) := ⟨fun a b c => fs_s a ⟨b, c⟩, fun h => fs_n h, fs_b.1, fs_b.2⟩
theorem tDe_e (p : Int) : (p < N → 48 ≤ T p → T p ≤ 57 → tDe T N p = tDe T N (p + 1)) ∧ (¬ (p < N ∧ 48 ≤ T p ∧ T p ≤ 57) → tDe T N p = p) ∧ p ≤ tDe T N p ∧ (p ≤ N → tDe T N p ≤ N) := ⟨fun a b c => fs_s a ⟨b, c⟩, fun h => fs_n h, fs_b.1, fs_b.2⟩
theorem tBg_i (p : Int) : tBg T N (tBg T N p) = tBg T N p := fs_i
end TOKb
/-! words -/
def wl : List (List Int) := [[98, 97, 114, 110], [115, 101, 97, 115, 111, 110], [104, 101, 97, 112], [103, 105, 118, 101, 115], [109, 97, 121], [105, 102], [116, 104, 101, 110], [101, 108, 115, 101], [101, 110, 100], [115, 105, 122, 101], [112, 108, 97, 99, 101], [104, 101, 97, 112, 115], [97, 108, 108], [97, 110, 100], [111, 114], [110, 111, 116]]
def wlen (k : Nat) : Nat := (wl.getD k []).length
def wch (k j : Nat) : Int := (wl.getD k []).getD j 0
def WQ (T : Int → Int) (b e : Int) (k : Nat) : Prop := e = b + (wlen k : Int) ∧ ∀ j : Nat, j < wlen k → T (b + (j : Int)) = wch k j
theorem wl_u : ∀ k, k < 16 → ∀ k', k' < 16 → ¬ k = k' → wlen k = wlen k' → ((List.range (wlen k)).all fun j => decide (wch k j = wch k' j)) = false := by decide +kernel
theorem WQ_u {T : Int → Int} {b e : Int} {k k' : Nat} (h : WQ T b e k) (h' : WQ T b e k') (hk : k < 16) (hk' : k' < 16) : k = k' := by
  by_cases e0 : k = k'
  · exact e0
  · exfalso
    have l : wlen k = wlen k' := by have := h.1; have := h'.1; omega
    have a := wl_u k hk k' hk' e0 l
    have c : ((List.range (wlen k)).all fun j => decide (wch k j = wch k' j)) = true := by
      rw [List.all_eq_true]
      intro j hj
      have hj2 := List.mem_range.mp hj
      exact decide_eq_true ((h.2 j hj2).symm.trans (h'.2 j (by omega)))
    rw [c] at a
    cases a
noncomputable def tKey (T : Int → Int) (b e : Int) : Int := @dite _ (∃ k : Nat, k < 16 ∧ WQ T b e k) (Classical.propDecidable _) (fun h => ((Classical.choose h : Nat) : Int)) (fun _ => 22)
theorem tKey_k {T : Int → Int} {b e : Int} {k : Nat} (hk : k < 16) (h : WQ T b e k) : tKey T b e = (k : Int) := by
  have he : ∃ k : Nat, k < 16 ∧ WQ T b e k := ⟨k, hk, h⟩
  have s := Classical.choose_spec he
  have u : Classical.choose he = k := WQ_u s.2 h s.1 hk
  unfold tKey
  rw [dif_pos he, u]
theorem tKey_n {T : Int → Int} {b e : Int} (h : ∀ k, k < 16 → ¬ WQ T b e k) : tKey T b e = 22 := by
  unfold tKey
  exact dif_neg (fun q => by obtain ⟨k, hk, hq⟩ := q; exact h k hk hq)
theorem tKey_b {T : Int → Int} {b e : Int} : (0 ≤ tKey T b e ∧ tKey T b e ≤ 15) ∨ tKey T b e = 22 := by
  by_cases h : ∃ k : Nat, k < 16 ∧ WQ T b e k
  · obtain ⟨k, hk, hq⟩ := h
    rw [tKey_k hk hq]; omega
  · rw [tKey_n (fun k hk hq => h ⟨k, hk, hq⟩)]; omega
/-- signs -/
def sgl : List Int := [59, 58, 43, 45, 42, 40, 41, 91, 93, 61, 60, 62]
def tSg (c : Int) : Int := if c = 59 then 30 else if c = 58 then 31 else if c = 43 then 32 else if c = 45 then 33 else if c = 42 then 34 else if c = 40 then 35 else if c = 41 then 36 else if c = 91 then 37 else if c = 93 then 38 else if c = 61 then 39 else if c = 60 then 40 else if c = 62 then 41 else 25
theorem tSg_j : ∀ j : Nat, j < 12 → tSg (sgl.getD j 0) = 30 + (j : Int) := by decide
theorem tSg_n {c : Int} (h : ∀ j : Nat, j < 12 → ¬ c = sgl.getD j 0) : tSg c = 25 := by
  have h0 : ¬ c = 59 := h 0 (by decide)
  have h1 : ¬ c = 58 := h 1 (by decide)
  have h2 : ¬ c = 43 := h 2 (by decide)
  have h3 : ¬ c = 45 := h 3 (by decide)
  have h4 : ¬ c = 42 := h 4 (by decide)
  have h5 : ¬ c = 40 := h 5 (by decide)
  have h6 : ¬ c = 41 := h 6 (by decide)
  have h7 : ¬ c = 91 := h 7 (by decide)
  have h8 : ¬ c = 93 := h 8 (by decide)
  have h9 : ¬ c = 61 := h 9 (by decide)
  have h10 : ¬ c = 60 := h 10 (by decide)
  have h11 : ¬ c = 62 := h 11 (by decide)
  unfold tSg
  rw [if_neg h0, if_neg h1, if_neg h2, if_neg h3, if_neg h4, if_neg h5, if_neg h6, if_neg h7, if_neg h8, if_neg h9, if_neg h10, if_neg h11]
theorem tSg_b (c : Int) : tSg c = 25 ∨ (30 ≤ tSg c ∧ tSg c ≤ 41) := by
  by_cases h : ∃ j : Nat, j < 12 ∧ c = sgl.getD j 0
  · obtain ⟨j, hj, e⟩ := h
    rw [e, tSg_j j hj]; omega
  · exact Or.inl (tSg_n (fun j hj e => h ⟨j, hj, e⟩))
/-- kind, end, number of the token that begins behind p -/
noncomputable def tKd (T : Int → Int) (N p : Int) : Int := @ite _ (N ≤ tBg T N p) (Classical.propDecidable _) 24 (@ite _ (pL T (tBg T N p)) (Classical.propDecidable _) (tKey T (tBg T N p) (tWe T N (tBg T N p))) (@ite _ (pD T (tBg T N p)) (Classical.propDecidable _) (@ite _ (3 < tDe T N (tBg T N p) - tBg T N p) (Classical.propDecidable _) 25 23) (tSg (T (tBg T N p)))))
noncomputable def tEn (T : Int → Int) (N p : Int) : Int := @ite _ (N ≤ tBg T N p) (Classical.propDecidable _) (tBg T N p) (@ite _ (pL T (tBg T N p)) (Classical.propDecidable _) (tWe T N (tBg T N p)) (@ite _ (pD T (tBg T N p)) (Classical.propDecidable _) (tDe T N (tBg T N p)) (tBg T N p + 1)))
/-- the number that the digits from b to e tell, three at most -/
def tNv (T : Int → Int) (b e : Int) : Int := if e = b then 0 else if e = b + 1 then T b - 48 else if e = b + 2 then (T b - 48) * 10 + T (b + 1) - 48 else ((T b - 48) * 10 + T (b + 1) - 48) * 10 + T (b + 2) - 48
theorem tNv_0 {T : Int → Int} {b e : Int} (h : e = b) : tNv T b e = 0 := if_pos h
theorem tNv_s {T : Int → Int} {b e : Int} (h0 : b ≤ e) (h : e < b + 3) : tNv T b (e + 1) = tNv T b e * 10 + T e - 48 := by
  unfold tNv
  by_cases e0 : e = b
  · subst e0
    rw [if_neg (by omega), if_pos rfl, if_pos rfl]; omega
  · by_cases e1 : e = b + 1
    · subst e1
      rw [if_neg (by omega), if_neg (by omega), if_pos (by omega), if_neg (by omega), if_pos rfl]
    · have e2 : e = b + 2 := by omega
      subst e2
      rw [if_neg (by omega), if_neg (by omega), if_neg (by omega), if_neg (by omega), if_neg (by omega), if_pos rfl]
theorem tNv_m {T : Int → Int} {b e : Int} (h : b + 3 ≤ e) : tNv T b (e + 1) = tNv T b e := by
  unfold tNv
  rw [if_neg (by omega), if_neg (by omega), if_neg (by omega), if_neg (by omega), if_neg (by omega), if_neg (by omega)]
noncomputable def tVl (T : Int → Int) (N p : Int) : Int := tNv T (tBg T N p) (tEn T N p)
noncomputable def tNx (T : Int → Int) (N p : Int) : Int := tBg T N (tEn T N p)
section TOKc
variable {T : Int → Int} {N : Int}
theorem tKd_end {p : Int} (h : N ≤ tBg T N p) : tKd T N p = 24 ∧ tEn T N p = tBg T N p := ⟨if_pos h, if_pos h⟩
theorem tKd_let {p : Int} (h : tBg T N p < N) (h1 : 97 ≤ T (tBg T N p) ∧ T (tBg T N p) ≤ 122) : tKd T N p = tKey T (tBg T N p) (tWe T N (tBg T N p)) ∧ tEn T N p = tWe T N (tBg T N p) := by
  have a : ¬ N ≤ tBg T N p := by omega
  have b : pL T (tBg T N p) := h1
  exact ⟨(if_neg a).trans (if_pos b), (if_neg a).trans (if_pos b)⟩
theorem tKd_dig {p : Int} (h : tBg T N p < N) (h1 : 48 ≤ T (tBg T N p) ∧ T (tBg T N p) ≤ 57) : (3 < tDe T N (tBg T N p) - tBg T N p → tKd T N p = 25) ∧ (¬ 3 < tDe T N (tBg T N p) - tBg T N p → tKd T N p = 23) ∧ tEn T N p = tDe T N (tBg T N p) := by
  have a : ¬ N ≤ tBg T N p := by omega
  have b : ¬ pL T (tBg T N p) := fun q => by have := q.1; omega
  have c : pD T (tBg T N p) := h1
  refine ⟨fun q => (if_neg a).trans ((if_neg b).trans ((if_pos c).trans (if_pos q))), fun q => (if_neg a).trans ((if_neg b).trans ((if_pos c).trans (if_neg q))), (if_neg a).trans ((if_neg b).trans (if_pos c))⟩
theorem tKd_sig {p : Int} (h : tBg T N p < N) (h1 : ¬ (97 ≤ T (tBg T N p) ∧ T (tBg T N p) ≤ 122)) (h2 : ¬ (48 ≤ T (tBg T N p) ∧ T (tBg T N p) ≤ 57)) : tKd T N p = tSg (T (tBg T N p)) ∧ tEn T N p = tBg T N p + 1 := by
  have a : ¬ N ≤ tBg T N p := by omega
  exact ⟨(if_neg a).trans ((if_neg h1).trans (if_neg h2)), (if_neg a).trans ((if_neg h1).trans (if_neg h2))⟩
/-- kinds there are -/
def tKk (k : Int) : Prop := (0 ≤ k ∧ k ≤ 15) ∨ (22 ≤ k ∧ k ≤ 25) ∨ (30 ≤ k ∧ k ≤ 41)
theorem tKd_k (p : Int) : tKk (tKd T N p) := by
  unfold tKk
  by_cases a : N ≤ tBg T N p
  · rw [(tKd_end a).1]; omega
  · by_cases b : 97 ≤ T (tBg T N p) ∧ T (tBg T N p) ≤ 122
    · rw [(tKd_let (by omega) b).1]
      have := tKey_b (T := T) (b := tBg T N p) (e := tWe T N (tBg T N p))
      omega
    · by_cases c : 48 ≤ T (tBg T N p) ∧ T (tBg T N p) ≤ 57
      · have q := tKd_dig (by omega) c
        by_cases d : 3 < tDe T N (tBg T N p) - tBg T N p
        · rw [q.1 d]; omega
        · rw [q.2.1 d]; omega
      · rw [(tKd_sig (by omega) b c).1]
        have := tSg_b (T (tBg T N p))
        omega
theorem tKd_b (p : Int) : tKd T N (tBg T N p) = tKd T N p := by unfold tKd; rw [tBg_i]
theorem tEn_i (p : Int) : tEn T N (tBg T N p) = tEn T N p := by unfold tEn; rw [tBg_i]
theorem tVl_b (p : Int) : tVl T N (tBg T N p) = tVl T N p := by unfold tVl; rw [tEn_i, tBg_i]
/-- a token goes on, but for the end -/
theorem tEn_b (p : Int) : tBg T N p ≤ tEn T N p ∧ (p ≤ N → tEn T N p ≤ N) ∧ (¬ tKd T N p = 24 → tBg T N p < tEn T N p ∧ tBg T N p < N) ∧ (tKd T N p = 24 → N ≤ tBg T N p ∧ tEn T N p = tBg T N p) := by
  by_cases a : N ≤ tBg T N p
  · have q := tKd_end a
    have r := tBg_e (T := T) (N := N) p
    rw [q.1, q.2]
    exact ⟨by omega, by omega, fun h => absurd rfl h, fun _ => ⟨a, rfl⟩⟩
  · by_cases b : 97 ≤ T (tBg T N p) ∧ T (tBg T N p) ≤ 122
    · have q := tKd_let (T := T) (N := N) (p := p) (by omega) b
      rw [q.2, q.1]
      have r := tWe_e (T := T) (N := N) (tBg T N p)
      have r2 := tWe_e (T := T) (N := N) (tBg T N p + 1)
      have r3 := r.1 (by omega) b.1 b.2
      have kb := tKey_b (T := T) (b := tBg T N p) (e := tWe T N (tBg T N p))
      exact ⟨by omega, fun _ => by omega, fun _ => by omega, fun h => by omega⟩
    · by_cases c : 48 ≤ T (tBg T N p) ∧ T (tBg T N p) ≤ 57
      · have q := tKd_dig (T := T) (N := N) (p := p) (by omega) c
        have r := tDe_e (T := T) (N := N) (tBg T N p)
        have r2 := tDe_e (T := T) (N := N) (tBg T N p + 1)
        have r3 := r.1 (by omega) c.1 c.2
        have kn : ¬ tKd T N p = 24 := by
          by_cases d : 3 < tDe T N (tBg T N p) - tBg T N p
          · rw [q.1 d]; omega
          · rw [q.2.1 d]; omega
        rw [q.2.2]
        exact ⟨by omega, fun _ => by omega, fun _ => by omega, fun h => absurd h kn⟩
      · have q := tKd_sig (T := T) (N := N) (p := p) (by omega) b c
        have sb := tSg_b (T (tBg T N p))
        rw [q.2, q.1]
        exact ⟨by omega, fun _ => by omega, fun _ => by omega, fun h => by omega⟩
theorem tNx_b (c : Int) : c ≤ tNx T N c ∧ (c ≤ N → tNx T N c ≤ N) ∧ (¬ tKd T N c = 24 → c < tNx T N c) ∧ tBg T N (tNx T N c) = tNx T N c := by
  have a := tBg_e (T := T) (N := N) c
  have b := tEn_b (T := T) (N := N) c
  have d := tBg_e (T := T) (N := N) (tEn T N c)
  show c ≤ tBg T N (tEn T N c) ∧ (c ≤ N → tBg T N (tEn T N c) ≤ N) ∧ (¬ tKd T N c = 24 → c < tBg T N (tEn T N c)) ∧ tBg T N (tBg T N (tEn T N c)) = tBg T N (tEn T N c)
  refine ⟨by omega, fun h => ?_, fun h => ?_, tBg_i _⟩
  · have := b.2.1 h; have := d.2.2.2 (by omega); omega
  · have := b.2.2.1 h; omega
end TOKc
/-! the words as the class and the reference find them -/
section TOKd
variable {T : Int → Int} {b e : Int}
def cw0 (i : Int) : Int := (sb_0.getD i.toNat 0).toInt
def cw1 (i : Int) : Int := (sb_1.getD i.toNat 0).toInt
def cw2 (i : Int) : Int := (sb_2.getD i.toNat 0).toInt
def wnN : Nat → Nat
  | 0 => 0
  | q + 1 => if (sb_0.getD q 0).toInt = 32 then wnN q + 1 else wnN q
def frN : Nat → Nat
  | 0 => 0
  | q + 1 => if (sb_0.getD q 0).toInt = 32 then q + 1 else frN q
def pic (w : Nat) : Nat := if w = 13 then 14 else if w = 14 then 13 else w
theorem pic_t : ∀ w, w < 16 → (pic w < 16 ∧ pic (pic w) = w) := by decide
theorem pic_b {w : Nat} (h : w < 16) : pic w < 16 := (pic_t w h).1
theorem wtab : ∀ q : Nat, q < 76 → (wnN q < 16 ∧ frN q ≤ q ∧ q - frN q ≤ wlen (pic (wnN q)) ∧ ((sb_0.getD q 0).toInt = 32 ↔ q - frN q = wlen (pic (wnN q))) ∧ (q - frN q < wlen (pic (wnN q)) → (sb_0.getD q 0).toInt = wch (pic (wnN q)) (q - frN q))) := by decide +kernel
theorem wtab2 : wnN 76 = 16 := by decide +kernel
/-- the class's kind of a kind -/
def tCk (k : Int) : Int := if k ≤ 12 then 300 + k else if k = 13 then 314 else if k = 14 then 313 else if k = 15 then 315 else if k = 22 then 299 else if k = 23 then 1 else if k = 24 then 0 else if k = 25 then 2 else if k = 30 then 59 else if k = 31 then 58 else if k = 32 then 43 else if k = 33 then 45 else if k = 34 then 42 else if k = 35 then 40 else if k = 36 then 41 else if k = 37 then 91 else if k = 38 then 93 else if k = 39 then 61 else if k = 40 then 60 else 62
theorem tCk_w : ∀ w, w < 16 → tCk ((pic w : Nat) : Int) = 300 + (w : Int) := by decide
theorem tCk_s : ∀ j : Nat, j < 12 → tCk (30 + (j : Int)) = sgl.getD j 0 := by decide
def PM (T : Int → Int) (b e : Int) (q : Nat) : Prop := ∀ j : Nat, j < q - frN q → b + (j : Int) < e ∧ T (b + (j : Int)) = wch (pic (wnN q)) j
def KW (T : Int → Int) (b e i w f m : Int) : Prop := w = 300 + (wnN i.toNat : Int) ∧ f = (frN i.toNat : Int) ∧ (∀ k, k < wnN i.toNat → ¬ WQ T b e (pic k)) ∧ ((m = 1 ∧ PM T b e i.toNat) ∨ (m = 0 ∧ ¬ PM T b e i.toNat))
theorem KW_0 : KW T b e 0 300 0 1 := by
  refine ⟨rfl, rfl, fun k hk => ?_, Or.inl ⟨rfl, fun j hj => ?_⟩⟩
  · exact absurd (show k < 0 from hk) (by omega)
  · exact absurd (show j < 0 from hj) (by omega)
theorem KW_l {i w f m m' : Int} (h : KW T b e i w f m) (hi : 0 ≤ i ∧ i < 76) (hc : ¬ cw0 i = 32) (hm : (m' = 1 ∧ m = 1 ∧ b + i - f < e ∧ T (b + i - f) = cw0 i) ∨ (m' = 0 ∧ ¬ (m = 1 ∧ b + i - f < e ∧ T (b + i - f) = cw0 i))) : KW T b e (i + 1) w f m' := by
  obtain ⟨q, rfl⟩ : ∃ q : Nat, i = (q : Int) := ⟨i.toNat, by omega⟩
  have hq : q < 76 := by omega
  have et : ((q : Int) + 1).toNat = q + 1 := by omega
  have et0 : ((q : Int)).toNat = q := by omega
  obtain ⟨h1, h2, h3, h4⟩ := h
  rw [et0] at h1 h2 h3 h4
  have hc' : ¬ (sb_0.getD q 0).toInt = 32 := hc
  have ew : wnN (q + 1) = wnN q := if_neg hc'
  have ef : frN (q + 1) = frN q := if_neg hc'
  obtain ⟨t1, t2, t3, t4, t5⟩ := wtab q hq
  have tl : q - frN q < wlen (pic (wnN q)) := by
    have : ¬ q - frN q = wlen (pic (wnN q)) := fun x => hc' (t4.mpr x)
    omega
  have tc : cw0 (q : Int) = wch (pic (wnN q)) (q - frN q) := t5 tl
  have ep : b + (q : Int) - f = b + ((q - frN q : Nat) : Int) := by omega
  have step : PM T b e (q + 1) ↔ (PM T b e q ∧ b + (q : Int) - f < e ∧ T (b + (q : Int) - f) = cw0 (q : Int)) := by
    constructor
    · intro hp
      have hl := hp (q - frN q) (by rw [ef]; omega)
      rw [ew] at hl
      refine ⟨fun j hj => ?_, ?_, ?_⟩
      · have := hp j (by rw [ef]; omega)
        rw [ew] at this
        exact this
      · rw [ep]; exact hl.1
      · rw [ep, tc]; exact hl.2
    · intro hp j hj
      rw [ew]
      rw [ef] at hj
      by_cases hj2 : j < q - frN q
      · exact hp.1 j hj2
      · have ej : j = q - frN q := by omega
        subst ej
        rw [← ep]
        exact ⟨hp.2.1, hp.2.2.trans tc⟩
  refine ⟨?_, ?_, fun k hk => ?_, ?_⟩
  · rw [et, ew]; exact h1
  · rw [et, ef]; exact h2
  · rw [et, ew] at hk; exact h3 k hk
  · rw [et]
    rcases hm with ⟨m1, m2, m3, m4⟩ | ⟨m1, m2⟩
    · rcases h4 with ⟨_, hp⟩ | ⟨m0, _⟩
      · exact Or.inl ⟨m1, step.mpr ⟨hp, m3, m4⟩⟩
      · exact absurd m2 (by omega)
    · refine Or.inr ⟨m1, fun hp => m2 ?_⟩
      obtain ⟨p1, p2, p3⟩ := step.mp hp
      rcases h4 with ⟨m5, _⟩ | ⟨_, hn⟩
      · exact ⟨m5, p2, p3⟩
      · exact absurd p1 hn
theorem KW_q {i w f m : Int} (h : KW T b e i w f m) (hi : 0 ≤ i ∧ i < 76) (hc : cw0 i = 32) : WQ T b e (pic (wnN i.toNat)) ↔ (m = 1 ∧ b + i - f = e) := by
  obtain ⟨q, rfl⟩ : ∃ q : Nat, i = (q : Int) := ⟨i.toNat, by omega⟩
  have hq : q < 76 := by omega
  have et0 : ((q : Int)).toNat = q := by omega
  obtain ⟨h1, h2, h3, h4⟩ := h
  rw [et0] at h1 h2 h3 h4 ⊢
  obtain ⟨t1, t2, t3, t4, t5⟩ := wtab q hq
  have tl : q - frN q = wlen (pic (wnN q)) := t4.mp hc
  constructor
  · intro hw
    refine ⟨?_, ?_⟩
    · rcases h4 with ⟨m1, _⟩ | ⟨_, hn⟩
      · exact m1
      · refine absurd (fun j hj => ⟨?_, hw.2 j (by omega)⟩) hn
        have := hw.1
        omega
    · have := hw.1
      omega
  · intro hm
    rcases h4 with ⟨_, hp⟩ | ⟨m0, _⟩
    · refine ⟨by omega, fun j hj => (hp j (by omega)).2⟩
    · exact absurd hm.1 (by omega)
theorem KW_s {i w f m : Int} (h : KW T b e i w f m) (hi : 0 ≤ i ∧ i < 76) (hc : cw0 i = 32) (hn : ¬ (m = 1 ∧ b + i - f = e)) : KW T b e (i + 1) (w + 1) (i + 1) 1 := by
  have hw : ¬ WQ T b e (pic (wnN i.toNat)) := fun x => hn ((KW_q h hi hc).mp x)
  obtain ⟨q, rfl⟩ : ∃ q : Nat, i = (q : Int) := ⟨i.toNat, by omega⟩
  have hq : q < 76 := by omega
  have et : ((q : Int) + 1).toNat = q + 1 := by omega
  have et0 : ((q : Int)).toNat = q := by omega
  obtain ⟨h1, h2, h3, h4⟩ := h
  rw [et0] at h1 h2 h3 h4 hw
  have hc' : (sb_0.getD q 0).toInt = 32 := hc
  have ew : wnN (q + 1) = wnN q + 1 := if_pos hc'
  have ef : frN (q + 1) = q + 1 := if_pos hc'
  refine ⟨?_, ?_, fun k hk => ?_, Or.inl ⟨rfl, fun j hj => ?_⟩⟩
  · rw [et, ew]; omega
  · rw [et, ef]; omega
  · rw [et, ew] at hk
    by_cases hk2 : k < wnN q
    · exact h3 k hk2
    · rw [show k = wnN q by omega]; exact hw
  · rw [et] at hj
    rw [ef] at hj
    exact absurd hj (by omega)
theorem KW_r {i w f m : Int} (h : KW T b e i w f m) (hi : 0 ≤ i ∧ i < 76) (hc : cw0 i = 32) (hm : m = 1) (he : b + i - f = e) : w = tCk (tKey T b e) := by
  have hw := (KW_q h hi hc).mpr ⟨hm, he⟩
  have hb : wnN i.toNat < 16 := (wtab i.toNat (by omega)).1
  rw [tKey_k (pic_b hb) hw, tCk_w _ hb]
  exact h.1
theorem KW_e {i w f m : Int} (h : KW T b e i w f m) (hi : i = 76) : 299 = tCk (tKey T b e) := by
  subst hi
  have h3 := h.2.2.1
  rw [show ((76 : Int)).toNat = 76 from rfl, wtab2] at h3
  rw [tKey_n (fun k hk => by
    have := h3 (pic k) (pic_b hk)
    rw [(pic_t k hk).2] at this
    exact this)]
  rfl
/-- the reference's row of words -/
def st2 (n : Nat) : Nat := [1, 6, 13, 18, 24, 28, 31, 36, 41, 45, 50, 56, 62, 66, 70, 73, 77].getD n 77
theorem stab : ∀ n, n < 16 → (st2 n + wlen n < 77 ∧ (∀ j, j < wlen n → (sb_2.getD (st2 n + j) 0).toInt = wch n j ∧ ¬ wch n j = 32) ∧ (sb_2.getD (st2 n + wlen n) 0).toInt = 32 ∧ st2 (n + 1) = st2 n + wlen n + 1) := by decide +kernel
def KM (T : Int → Int) (b e n k : Int) : Prop := 0 ≤ n ∧ n ≤ 16 ∧ k = (st2 n.toNat : Int) ∧ ∀ q, q < n.toNat → ¬ WQ T b e q
def KI (T : Int → Int) (b e n k i : Int) : Prop := KM T b e n k ∧ n < 16 ∧ 0 ≤ i ∧ i ≤ (wlen n.toNat : Int) ∧ ∀ j : Nat, (j : Int) < i → b + (j : Int) < e ∧ T (b + (j : Int)) = wch n.toNat j
def KZ (T : Int → Int) (b e n k : Int) : Prop := 0 ≤ n ∧ n < 16 ∧ (st2 n.toNat : Int) ≤ k ∧ k ≤ (st2 n.toNat : Int) + (wlen n.toNat : Int) ∧ ∀ q, q ≤ n.toNat → ¬ WQ T b e q
theorem KM_0 : KM T b e 0 1 := ⟨by decide, by decide, rfl, fun q hq => absurd (show q < 0 from hq) (by omega)⟩
theorem KM_n {n k : Int} (h : KM T b e n k) (hk : k < 77) : n < 16 := by
  obtain ⟨h1, h2, h3, _⟩ := h
  by_cases e16 : n = 16
  · subst e16
    have : k = 77 := h3
    omega
  · omega
theorem KI_0 {n k : Int} (h : KM T b e n k) (hk : k < 77) : KI T b e n k 0 := ⟨h, KM_n h hk, by decide, by omega, fun j hj => absurd hj (by omega)⟩
theorem KI_b {n k i : Int} (h : KI T b e n k i) : k + i < 77 ∧ (cw2 (k + i) = 32 ↔ i = (wlen n.toNat : Int)) ∧ (i < (wlen n.toNat : Int) → cw2 (k + i) = wch n.toNat i.toNat) := by
  obtain ⟨⟨h1, h2, h3, h4⟩, h5, h6, h7, h8⟩ := h
  obtain ⟨s1, s2, s3, s4⟩ := stab n.toNat (by omega)
  have et : (k + i).toNat = st2 n.toNat + i.toNat := by omega
  have ec : cw2 (k + i) = (sb_2.getD (st2 n.toNat + i.toNat) 0).toInt := by unfold cw2; rw [et]
  refine ⟨by omega, ⟨fun h => ?_, fun h => ?_⟩, fun h => ?_⟩
  · by_cases hl : i < (wlen n.toNat : Int)
    · have := s2 i.toNat (by omega)
      rw [ec, this.1] at h
      exact absurd h this.2
    · omega
  · rw [ec, show i.toNat = wlen n.toNat by omega]; exact s3
  · rw [ec]; exact (s2 i.toNat (by omega)).1
theorem KI_s {n k i : Int} (h : KI T b e n k i) (hc : ¬ cw2 (k + i) = 32) (hb : b + i < e) (ht : T (b + i) = cw2 (k + i)) : KI T b e n k (i + 1) := by
  have q := KI_b h
  obtain ⟨h1, h5, h6, h7, h8⟩ := h
  have hl : i < (wlen n.toNat : Int) := by
    have : ¬ i = (wlen n.toNat : Int) := fun x => hc (q.2.1.mpr x)
    omega
  refine ⟨h1, h5, by omega, by omega, fun j hj => ?_⟩
  by_cases hj2 : (j : Int) < i
  · exact h8 j hj2
  · have ej : (j : Int) = i := by omega
    rw [ej]
    refine ⟨hb, ht.trans ((q.2.2 hl).trans ?_)⟩
    rw [← ej]; rfl
theorem KI_r {n k i : Int} (h : KI T b e n k i) (hc : cw2 (k + i) = 32) (he : b + i = e) : n = tKey T b e := by
  have q := KI_b h
  obtain ⟨⟨h1, h2, h3, h4⟩, h5, h6, h7, h8⟩ := h
  have hl := q.2.1.mp hc
  have hw : WQ T b e n.toNat := ⟨by omega, fun j hj => (h8 j (by omega)).2⟩
  rw [tKey_k (by omega) hw]
  omega
theorem KI_f {n k i : Int} (h : KI T b e n k i) (h1 : ¬ (¬ cw2 (k + i) = 32 ∧ b + i < e ∧ T (b + i) = cw2 (k + i))) (h2 : ¬ (cw2 (k + i) = 32 ∧ b + i = e)) : KZ T b e n k := by
  have q := KI_b h
  obtain ⟨⟨g1, g2, g3, g4⟩, h5, h6, h7, h8⟩ := h
  refine ⟨g1, h5, by omega, by omega, fun m hm hw => ?_⟩
  by_cases e0 : m = n.toNat
  · subst e0
    by_cases hl : i = (wlen n.toNat : Int)
    · exact h2 ⟨q.2.1.mpr hl, by have := hw.1; omega⟩
    · refine h1 ⟨fun x => hl (q.2.1.mp x), by have := hw.1; omega, ?_⟩
      have e1 := hw.2 i.toNat (by omega)
      rw [show ((i.toNat : Nat) : Int) = i by omega] at e1
      exact e1.trans (q.2.2 (by omega)).symm
  · exact g4 m (by omega) hw
theorem KZ_b {n k : Int} (h : KZ T b e n k) : k < 77 := by
  obtain ⟨h1, h2, h3, h4, h5⟩ := h
  obtain ⟨s1, s2, s3, s4⟩ := stab n.toNat (by omega)
  omega
theorem KZ_s {n k : Int} (h : KZ T b e n k) (hc : ¬ cw2 k = 32) : KZ T b e n (k + 1) := by
  obtain ⟨h1, h2, h3, h4, h5⟩ := h
  obtain ⟨s1, s2, s3, s4⟩ := stab n.toNat (by omega)
  refine ⟨h1, h2, by omega, ?_, h5⟩
  by_cases hl : k = (st2 n.toNat : Int) + (wlen n.toNat : Int)
  · refine absurd ?_ hc
    show (sb_2.getD k.toNat 0).toInt = 32
    rw [show k.toNat = st2 n.toNat + wlen n.toNat by omega]
    exact s3
  · omega
theorem KZ_e {n k : Int} (h : KZ T b e n k) (hc : cw2 k = 32) : KM T b e (n + 1) (k + 1) := by
  obtain ⟨h1, h2, h3, h4, h5⟩ := h
  obtain ⟨s1, s2, s3, s4⟩ := stab n.toNat (by omega)
  have hk : k = (st2 n.toNat : Int) + (wlen n.toNat : Int) := by
    by_cases hl : k < (st2 n.toNat : Int) + (wlen n.toNat : Int)
    · have a := s2 (k.toNat - st2 n.toNat) (by omega)
      have ec : cw2 k = (sb_2.getD (st2 n.toNat + (k.toNat - st2 n.toNat)) 0).toInt := by
        rw [show st2 n.toNat + (k.toNat - st2 n.toNat) = k.toNat by omega]; rfl
      rw [ec, a.1] at hc
      exact absurd hc a.2
    · omega
  refine ⟨by omega, by omega, ?_, fun q hq => h5 q (by omega)⟩
  rw [show (n + 1).toNat = n.toNat + 1 by omega, s4]
  omega
theorem KM_e {n k : Int} (h : KM T b e n k) (hk : ¬ k < 77) : 22 = tKey T b e := by
  have hn : n = 16 := by
    by_cases h16 : n < 16
    · obtain ⟨s1, _⟩ := stab n.toNat (by have := h.1; omega)
      have := h.2.2.1
      omega
    · have := h.2.1; omega
  subst hn
  exact (tKey_n (fun k hk => h.2.2.2 k hk)).symm
/-- signs -/
theorem cw1_s : ∀ q : Nat, q < 12 → cw1 (q : Int) = sgl.getD q 0 := by decide +kernel
def NI (c i : Int) : Prop := ∀ j : Nat, (j : Int) < i → ¬ c = cw1 (j : Int)
theorem NI_0 {c : Int} : NI c 0 := fun j hj => absurd hj (by omega)
theorem NI_s {c i : Int} (h : NI c i) (hi : 0 ≤ i) (hn : ¬ c = cw1 i) : NI c (i + 1) := fun j hj => by
  by_cases e0 : (j : Int) = i
  · rw [e0]; exact hn
  · exact h j (by omega)
theorem NI_r {c i : Int} (hi : 0 ≤ i ∧ i < 12) (h : c = cw1 i) : tCk (tSg c) = c := by
  obtain ⟨q, rfl⟩ : ∃ q : Nat, i = (q : Int) := ⟨i.toNat, by omega⟩
  rw [h, cw1_s q (by omega), tSg_j q (by omega), tCk_s q (by omega)]
theorem NI_e {c : Int} (h : NI c 12) : tSg c = 25 := tSg_n (fun j hj e => h j (by omega) (e.trans (cw1_s j hj).symm))
def SI (c k z : Int) : Prop := (z = 25 ∧ NI c k) ∨ (∃ j : Nat, (j : Int) < k ∧ c = cw1 (j : Int) ∧ z = 30 + (j : Int))
theorem SI_0 {c : Int} : SI c 0 25 := Or.inl ⟨rfl, NI_0⟩
theorem SI_n {c k z : Int} (h : SI c k z) (hk : 0 ≤ k) (hn : ¬ c = cw1 k) : SI c (k + 1) z := by
  rcases h with ⟨h1, h2⟩ | ⟨j, h1, h2, h3⟩
  · exact Or.inl ⟨h1, NI_s h2 hk hn⟩
  · exact Or.inr ⟨j, by omega, h2, h3⟩
theorem SI_y {c k : Int} (hk : 0 ≤ k) (hn : c = cw1 k) : SI c (k + 1) (30 + k) := Or.inr ⟨k.toNat, by omega, by rw [show ((k.toNat : Nat) : Int) = k by omega]; exact hn, by omega⟩
theorem SI_e {c z : Int} (h : SI c 12 z) : z = tSg c := by
  rcases h with ⟨h1, h2⟩ | ⟨j, h1, h2, h3⟩
  · rw [NI_e h2]; exact h1
  · rw [h2, cw1_s j (by omega), tSg_j j (by omega)]; exact h3
end TOKd
