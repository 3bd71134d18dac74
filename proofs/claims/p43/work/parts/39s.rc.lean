/-! rows of the strings' bytes, told -/
section JSW
variable {B : mx_B} {M : mx_M} {d pc nx : Nat} {ls : mx_L} {rest : List Value} {h : mx_H} {Post : mx_R → Prop}
theorem Jsw_0 {a : Nat} {j : Int} (hs : mx_Sn B M pc (mx_sbald nx)) (hf : mx_sfd (a - 1) = some sb_0) (hb : 0 ≤ j ∧ j < 76) (hj : 32 ≤ cw0 j ∧ cw0 j ≤ 122 → mx_J B M d nx ls (xI (cw0 j) :: rest) h Post) : mx_J B M d pc ls (xI j :: .ref a :: rest) h Post := by
  obtain ⟨c1, c2, c3, c4⟩ := cl_I (i := j) (len := 76) hb (by decide)
  have hv := vsb_0 j.toNat (by omega)
  have hlen : sb_0.length = 76 := rfl
  refine mx_J.step hs (fun k call => ?_) (hj ⟨hv.1, hv.2.1⟩)
  unfold mx_sbald
  simp only [hf, c1, hlen, c3, cond_true, if_neg c2]
  rw [xI, cw0, Int32.ofInt_toInt]
theorem Jsw_1 {a : Nat} {j : Int} (hs : mx_Sn B M pc (mx_sbald nx)) (hf : mx_sfd (a - 1) = some sb_1) (hb : 0 ≤ j ∧ j < 12) (hj : 32 ≤ cw1 j ∧ cw1 j ≤ 122 → mx_J B M d nx ls (xI (cw1 j) :: rest) h Post) : mx_J B M d pc ls (xI j :: .ref a :: rest) h Post := by
  obtain ⟨c1, c2, c3, c4⟩ := cl_I (i := j) (len := 12) hb (by decide)
  have hv := vsb_1 j.toNat (by omega)
  have hlen : sb_1.length = 12 := rfl
  refine mx_J.step hs (fun k call => ?_) (hj ⟨hv.1, hv.2.1⟩)
  unfold mx_sbald
  simp only [hf, c1, hlen, c3, cond_true, if_neg c2]
  rw [xI, cw1, Int32.ofInt_toInt]
theorem Jsw_2 {a : Nat} {j : Int} (hs : mx_Sn B M pc (mx_sbald nx)) (hf : mx_sfd (a - 1) = some sb_2) (hb : 0 ≤ j ∧ j < 77) (hj : 32 ≤ cw2 j ∧ cw2 j ≤ 122 ∧ (cw2 j = 32 ∨ j ≤ 75) → mx_J B M d nx ls (xI (cw2 j) :: rest) h Post) : mx_J B M d pc ls (xI j :: .ref a :: rest) h Post := by
  obtain ⟨c1, c2, c3, c4⟩ := cl_I (i := j) (len := 77) hb (by decide)
  have hv := vsb_2 j.toNat (by omega)
  have hlen : sb_2.length = 77 := rfl
  have hr : 32 ≤ cw2 j ∧ cw2 j ≤ 122 ∧ (cw2 j = 32 ∨ j ≤ 75) := ⟨hv.1, hv.2.1, by rcases hv.2.2 with q | q; exact Or.inl q; exact Or.inr (by omega)⟩
  refine mx_J.step hs (fun k call => ?_) (hj hr)
  unfold mx_sbald
  simp only [hf, c1, hlen, c3, cond_true, if_neg c2]
  rw [xI, cw2, Int32.ofInt_toInt]
end JSW
/-! what a state of the readers is -/
theorem gD_a : ∀ (l : List Int) (w : Int) (j : Nat), j < l.length → (l ++ [w]).getD j 0 = l.getD j 0
  | [], w, j, h => absurd h (Nat.not_lt_zero j)
  | a :: l, w, 0, h => rfl
  | a :: l, w, j + 1, h => gD_a l w j (Nat.lt_of_succ_lt_succ h)
theorem gD_e : ∀ (l : List Int) (w : Int), (l ++ [w]).getD l.length 0 = w
  | [], w => rfl
  | a :: l, w => gD_e l w
theorem gD_l (l : List Int) (w : Int) : (l ++ [w]).length = l.length + 1 := by rw [List.length_append]; rfl
/-- the class's kinds: told apart -/
def tUk (c : Int) : Int := if c = 313 then 14 else if c = 314 then 13 else if 300 ≤ c then c - 300 else if c = 299 then 22 else if c = 1 then 23 else if c = 0 then 24 else if c = 2 then 25 else tSg c
theorem tUk_k : ∀ n : Nat, n < 42 → (n ≤ 15 ∨ (22 ≤ n ∧ n ≤ 25) ∨ 30 ≤ n) → (tUk (tCk (n : Int)) = (n : Int) ∧ ¬ tCk (n : Int) = 3) := by decide
theorem tUk_e {k : Int} (h : tKk k) : tUk (tCk k) = k ∧ ¬ tCk k = 3 := by
  unfold tKk at h
  obtain ⟨n, rfl⟩ : ∃ n : Nat, k = (n : Int) := ⟨k.toNat, by omega⟩
  exact tUk_k n (by omega) (by omega)
theorem tCk_i {a b : Int} (ha : tKk a) (hb : tKk b) (e : tCk a = tCk b) : a = b := by
  rw [← (tUk_e ha).1, e, (tUk_e hb).1]
section RCa
variable {T : Int → Int} {N : Int} {Z Z' : xZ} {s : SS}
def TX (T : Int → Int) (N : Int) (Z : xZ) : Prop := Z 3 1 = N ∧ 0 ≤ N ∧ N ≤ 900 ∧ ∀ i, 0 ≤ i → i < N → T i = Z 2 i % 256
theorem TX_c (h : TX T N Z) (e1 : Z' 3 1 = Z 3 1) (e2 : ∀ i, Z' 2 i = Z 2 i) : TX T N Z' := ⟨e1.trans h.1, h.2.1, h.2.2.1, fun i a b => by rw [e2]; exact h.2.2.2 i a b⟩
theorem TX_i {i : Int} (h : TX T N Z) (h0 : 0 ≤ i) (h1 : i < N) : T i = Z 2 i % 256 := h.2.2.2 i h0 h1
/-- what advance() does -/
def AV (T : Int → Int) (N : Int) (Z Z' : xZ) : Prop := (¬ Z 3 14 = 0 → Z' 3 4 = Z 3 4) ∧ (Z 3 14 = 0 → Z' 3 3 = tBg T N (Z 3 2) ∧ Z' 3 2 = tEn T N (Z 3 2) ∧ Z' 3 4 = tCk (tKd T N (Z 3 2)) ∧ (tKd T N (Z 3 2) = 23 → Z' 3 5 = tVl T N (Z 3 2)))
def RCd (Z : xZ) (s : SS) : Prop := s.1 < 0 ∧ Z 3 4 = 3 ∧ 1 ≤ Z 3 14 ∧ s.1 = -(8 * Z 3 15 + Z 3 14)
def RCl (T : Int → Int) (N : Int) (Z : xZ) (s : SS) : Prop := 0 ≤ s.1 ∧ s.1 ≤ N ∧ tBg T N s.1 = s.1 ∧ Z 3 14 = 0 ∧ Z 3 3 = s.1 ∧ Z 3 4 = tCk (tKd T N s.1) ∧ Z 3 2 = tEn T N s.1 ∧ (tKd T N s.1 = 23 → Z 3 5 = tVl T N s.1) ∧ Z 3 7 = (s.2.length : Int) ∧ ∀ j : Nat, j < s.2.length → Z 5 (j : Int) = s.2.getD j 0
def RC (T : Int → Int) (N : Int) (Z : xZ) (s : SS) : Prop := TX T N Z ∧ (RCd Z s ∨ (Z 3 15 = -1 ∧ RCl T N Z s))
theorem RC_e {s' : SS} (h : RC T N Z s) (e : s' = s) : RC T N Z s' := e ▸ h
theorem RC_t (h : RC T N Z s) : TX T N Z := h.1
theorem RC_N (h : RC T N Z s) : s.1 ≤ N := by
  rcases h.2 with q | ⟨u, q⟩
  · have := q.1; have := h.1.2.1; omega
  · exact q.2.1
/-- what the numbers of a state are -/
theorem RC_p (h : RC T N Z s) : (s.1 < 0 ↔ Z 3 4 = 3) ∧ (0 ≤ s.1 → Z 3 3 = s.1 ∧ Z 3 14 = 0) ∧ s.1 ≤ N ∧ Z 3 1 = N := by
  refine ⟨⟨fun q => ?_, fun q => ?_⟩, fun q => ?_, RC_N h, h.1.1⟩
  · rcases h.2 with r | ⟨u, r⟩
    · exact r.2.1
    · have := r.1; omega
  · rcases h.2 with r | ⟨u, r⟩
    · exact r.1
    · have a := r.2.2.2.2.2.1
      exact absurd (a.symm.trans q) (tUk_e (tKd_k s.1)).2
  · rcases h.2 with r | ⟨u, r⟩
    · have := r.1; omega
    · exact ⟨r.2.2.2.2.1, r.2.2.2.1⟩
theorem RC_is {k v : Int} (h : RC T N Z s) (hk : tKk k) (hv : tCk k = v) : Z 3 4 = v ↔ gIs T N k s := by
  constructor
  · intro q
    rcases h.2 with r | ⟨u, r⟩
    · exact absurd (hv.trans (q.symm.trans r.2.1)) (tUk_e hk).2
    · exact ⟨r.1, tCk_i (tKd_k s.1) hk (r.2.2.2.2.2.1.symm.trans (q.trans hv.symm))⟩
  · intro q
    rcases h.2 with r | ⟨u, r⟩
    · have := r.1; have := q.1; omega
    · rw [r.2.2.2.2.2.1, q.2]; exact hv
theorem RC_y {k v : Int} (h : RC T N Z s) (hk : tKk k) (hv : tCk k = v) (q : Z 3 4 = v) : gIs T N k s := (RC_is h hk hv).mp q
theorem RC_n {k v : Int} (h : RC T N Z s) (hk : tKk k) (hv : tCk k = v) (q : ¬ Z 3 4 = v) : ¬ gIs T N k s := fun g => q ((RC_is h hk hv).mpr g)
theorem RC_w (h : RC T N Z s) : (0 ≤ s.1 ∧ 9 ≤ tKd T N s.1 ∧ tKd T N s.1 ≤ 12 ↔ 309 ≤ Z 3 4 ∧ Z 3 4 ≤ 312) ∧ (309 ≤ Z 3 4 → Z 3 4 ≤ 312 → Z 3 4 = 300 + tKd T N s.1) := by
  rcases h.2 with r | ⟨u, r⟩
  · have := r.1; have := r.2.1
    exact ⟨⟨fun q => by omega, fun q => by omega⟩, fun _ _ => by omega⟩
  · have a := r.2.2.2.2.2.1
    have k := tKd_k (T := T) (N := N) s.1
    have h0 := r.1
    unfold tKk at k
    unfold tCk at a
    rw [a]
    refine ⟨⟨fun q => ?_, fun q => ⟨h0, ?_⟩⟩, fun q1 q2 => ?_⟩
    · rw [if_pos (by omega)]; omega
    · revert q
      repeat' split
      all_goals omega
    · revert q1 q2
      repeat' split
      all_goals omega
theorem RC_v (h : RC T N Z s) (g : gIs T N 23 s) : Z 3 5 = tVl T N s.1 := by
  rcases h.2 with r | ⟨u, r⟩
  · have := r.1; have := g.1; omega
  · exact r.2.2.2.2.2.2.2.1 g.2
/-- what lies in sight stays -/
def FC (Z Z' : xZ) : Prop := Z' 3 1 = Z 3 1 ∧ Z' 3 2 = Z 3 2 ∧ Z' 3 3 = Z 3 3 ∧ Z' 3 4 = Z 3 4 ∧ Z' 3 5 = Z 3 5 ∧ Z' 3 14 = Z 3 14 ∧ Z' 3 15 = Z 3 15 ∧ ∀ i, Z' 2 i = Z 2 i
theorem RC_f {s' : SS} (h : RC T N Z s) (f : FC Z Z') (e1 : s'.1 = s.1) (e2 : 0 ≤ s.1 → Z' 3 7 = (s'.2.length : Int) ∧ ∀ j : Nat, j < s'.2.length → Z' 5 (j : Int) = s'.2.getD j 0) : RC T N Z' s' := by
  obtain ⟨f1, f2, f3, f4, f5, f14, f15, ft⟩ := f
  refine ⟨TX_c h.1 f1 ft, ?_⟩
  rcases h.2 with r | ⟨u, r⟩
  · left
    refine ⟨?_, ?_, ?_, ?_⟩
    · rw [e1]; exact r.1
    · rw [f4]; exact r.2.1
    · rw [f14]; exact r.2.2.1
    · rw [e1, f15, f14]; exact r.2.2.2
  · right
    obtain ⟨r1, r2, r3, r4, r5, r6, r7, r8, r9, r10⟩ := r
    refine ⟨f15.trans u, ?_, ?_, ?_, ?_, ?_, ?_, ?_, ?_, (e2 r1).1, (e2 r1).2⟩
    · rw [e1]; exact r1
    · rw [e1]; exact r2
    · rw [e1]; exact r3
    · rw [f14]; exact r4
    · rw [f3, e1]; exact r5
    · rw [f4, e1]; exact r6
    · rw [f2, e1]; exact r7
    · rw [f5, e1]; exact r8
theorem RC_c (h : RC T N Z s) (f : FC Z Z') (e7 : Z' 3 7 = Z 3 7) (e5 : ∀ i, Z' 5 i = Z 5 i) : RC T N Z' s := RC_f h f rfl (fun q => by
  rcases h.2 with r | ⟨u, r⟩
  · have := r.1; omega
  · exact ⟨by rw [e7]; exact r.2.2.2.2.2.2.2.2.1, fun j hj => by rw [e5]; exact r.2.2.2.2.2.2.2.2.2 j hj⟩)
theorem RC_em {w : Int} (h : RC T N Z s) (f : FC Z Z') (e7 : Z' 3 7 = Z 3 7 + 1) (ea : Z' 5 (Z 3 7) = w) (e5 : ∀ i, ¬ i = Z 3 7 → Z' 5 i = Z 5 i) : RC T N Z' (gEm w s) := RC_f h f gEm_1 (fun q => by
  rcases h.2 with r | ⟨u, r⟩
  · have := r.1; omega
  · have r9 := r.2.2.2.2.2.2.2.2.1
    have r10 := r.2.2.2.2.2.2.2.2.2
    rw [gEm_p q]
    show Z' 3 7 = ((s.2 ++ [w]).length : Int) ∧ ∀ j : Nat, j < (s.2 ++ [w]).length → Z' 5 (j : Int) = (s.2 ++ [w]).getD j 0
    rw [gD_l]
    refine ⟨by omega, fun j hj => ?_⟩
    by_cases hl : j < s.2.length
    · rw [gD_a _ _ _ hl, e5 _ (by omega)]; exact r10 j hl
    · have ej : j = s.2.length := by omega
      subst ej
      rw [gD_e, ← r9]; exact ea)
theorem RC_emx {w : Int} (h : RC T N Z s) (e3 : Z 3 4 = 3) : gEm w s = s := gEm_n ((RC_p h).1.mpr e3)
theorem RC_rs (h : RC T N Z s) (f : FC Z Z') (e7 : Z' 3 7 = 0) : RC T N Z' (gRs s) := by
  by_cases h0 : s.1 < 0
  · rw [show gRs s = s from if_pos h0]
    exact RC_f h f rfl (fun q => absurd q (by omega))
  · rw [show gRs s = (s.1, []) from if_neg h0]
    exact RC_f h f rfl (fun _ => ⟨e7, fun j hj => absurd hj (Nat.not_lt_zero j)⟩)
theorem RC_ad (h : RC T N Z s) (a : AV T N Z Z') (e14 : Z' 3 14 = Z 3 14) (e15 : Z' 3 15 = Z 3 15) (e7 : Z' 3 7 = Z 3 7) (e5 : ∀ i, Z' 5 i = Z 5 i) (e1 : Z' 3 1 = Z 3 1) (e2 : ∀ i, Z' 2 i = Z 2 i) : RC T N Z' (gAd T N s) := by
  refine ⟨TX_c h.1 e1 e2, ?_⟩
  rcases h.2 with r | ⟨u, r⟩
  · left
    have h4 := a.1 (by have := r.2.2.1; omega)
    rw [gAd_n r.1]
    exact ⟨r.1, h4.trans r.2.1, by rw [e14]; exact r.2.2.1, by rw [e15, e14]; exact r.2.2.2⟩
  · right
    obtain ⟨r1, r2, r3, r4, r5, r6, r7, r8, r9, r10⟩ := r
    obtain ⟨a3, a2, a4, a5⟩ := a.2 r4
    rw [r7] at a3 a2 a4 a5
    have b := tNx_b (T := T) (N := N) s.1
    rw [gAd_p r1]
    refine ⟨e15.trans u, show 0 ≤ tNx T N s.1 by omega, b.2.1 r2, b.2.2.2, e14.trans r4, a3, ?_, ?_, ?_, e7.trans r9, fun j hj => (e5 _).trans (r10 j hj)⟩
    · rw [a4]; show tCk (tKd T N (tEn T N s.1)) = tCk (tKd T N (tBg T N (tEn T N s.1))); rw [tKd_b]
    · rw [a2]; show tEn T N (tEn T N s.1) = tEn T N (tBg T N (tEn T N s.1)); rw [tEn_i]
    · intro q
      have q2 : tKd T N (tBg T N (tEn T N s.1)) = 23 := q
      rw [tKd_b] at q2
      rw [a5 q2]; show tVl T N (tEn T N s.1) = tVl T N (tBg T N (tEn T N s.1)); rw [tVl_b]
theorem RC_ft {k : Int} (h : RC T N Z s) (n3 : ¬ Z 3 4 = 3) (e4 : Z' 3 4 = 3) (e15 : Z' 3 15 = Z 3 3) (e14 : (Z 3 4 = 2 → Z' 3 14 = 1) ∧ (¬ Z 3 4 = 2 → Z' 3 14 = k)) (hk : 1 ≤ k) (e1 : Z' 3 1 = Z 3 1) (e2 : ∀ i, Z' 2 i = Z 2 i) : RC T N Z' (gFt T N k s) := by
  refine ⟨TX_c h.1 e1 e2, ?_⟩
  have k25 := RC_is (k := 25) h (Or.inr (Or.inl (by decide))) rfl
  rcases h.2 with r | ⟨u, r⟩
  · exact absurd r.2.1 n3
  · left
    obtain ⟨r1, r2, r3, r4, r5, r6, r7, r8, r9, r10⟩ := r
    rw [gFt_p r1]
    have n := gFl_n (T := T) (N := N) (k := k) (c := s.1) hk r1
    refine ⟨n, e4, ?_, ?_⟩
    · by_cases q : Z 3 4 = 2
      · rw [e14.1 q]; decide
      · rw [e14.2 q]; exact hk
    · show -(8 * s.1 + @ite _ (tKd T N s.1 = 25) (Classical.propDecidable _) 1 k) = _
      rw [e15, r5]
      by_cases q : Z 3 4 = 2
      · rw [e14.1 q, if_pos (k25.mp q).2]
      · rw [e14.2 q, if_neg (fun g => q (k25.mpr ⟨r1, g⟩))]
theorem RC_fx {k : Int} (h : RC T N Z s) (e3 : Z 3 4 = 3) : gFt T N k s = s := gFt_n ((RC_p h).1.mpr e3)
end RCa
/-! the reference's -/
section RMa
variable {T : Int → Int} {N g : Int} {Z Z' : xZ} {s : SS}
def TM (T : Int → Int) (N : Int) (Z : xZ) : Prop := Z 56 8 = N ∧ 0 ≤ N ∧ N ≤ 900 ∧ ∀ i, 0 ≤ i → i < N → T i = Z 59 i
theorem TM_c (h : TM T N Z) (e1 : Z' 56 8 = Z 56 8) (e2 : ∀ i, Z' 59 i = Z 59 i) : TM T N Z' := ⟨e1.trans h.1, h.2.1, h.2.2.1, fun i a b => by rw [e2]; exact h.2.2.2 i a b⟩
theorem TM_i {i : Int} (h : TM T N Z) (h0 : 0 ≤ i) (h1 : i < N) : T i = Z 59 i := h.2.2.2 i h0 h1
/-- what next() does -/
def AW (T : Int → Int) (N : Int) (Z Z' : xZ) : Prop := Z' 56 6 = tBg T N (Z 56 7) ∧ Z' 56 7 = tEn T N (Z 56 7) ∧ Z' 56 9 = tKd T N (Z 56 7) ∧ (tKd T N (Z 56 7) = 23 → Z' 56 10 = tVl T N (Z 56 7))
/-- the class's words of the reference's -/
def um (c : Int) : Int := if c < 3000 then c else if c ≤ 3005 then c - 1990 else if c = 3006 then 1018 else if c = 3007 then 1016 else if c = 3008 then 1017 else 1019
def RMd (Z : xZ) (s : SS) : Prop := s.1 < 0 ∧ 1 ≤ Z 56 11 ∧ s.1 = -(8 * Z 56 12 + Z 56 11)
def RMl (g : Int) (T : Int → Int) (N : Int) (Z : xZ) (s : SS) : Prop := 0 ≤ s.1 ∧ s.1 ≤ N ∧ tBg T N s.1 = s.1 ∧ Z 56 11 = 0 ∧ Z 56 6 = s.1 ∧ Z 56 9 = tKd T N s.1 ∧ Z 56 7 = tEn T N s.1 ∧ (tKd T N s.1 = 23 → Z 56 10 = tVl T N s.1) ∧ Z 60 61 = g + (s.2.length : Int) ∧ ∀ j : Nat, j < s.2.length → um (Z 60 (62 + g + (j : Int))) = s.2.getD j 0
def RM (g : Int) (T : Int → Int) (N : Int) (Z : xZ) (s : SS) : Prop := TM T N Z ∧ (RMd Z s ∨ RMl g T N Z s)
theorem RM_e {s' : SS} (h : RM g T N Z s) (e : s' = s) : RM g T N Z s' := e ▸ h
theorem RM_t (h : RM g T N Z s) : TM T N Z := h.1
theorem RM_p (h : RM g T N Z s) : (Z 56 11 = 0 ↔ 0 ≤ s.1) ∧ (0 ≤ s.1 → Z 56 6 = s.1 ∧ Z 56 9 = tKd T N s.1) ∧ s.1 ≤ N ∧ Z 56 8 = N := by
  refine ⟨⟨fun q => ?_, fun q => ?_⟩, fun q => ?_, ?_, h.1.1⟩
  · rcases h.2 with r | r
    · have := r.2.1; omega
    · exact r.1
  · rcases h.2 with r | r
    · have := r.1; omega
    · exact r.2.2.2.1
  · rcases h.2 with r | r
    · have := r.1; omega
    · exact ⟨r.2.2.2.2.1, r.2.2.2.2.2.1⟩
  · rcases h.2 with r | r
    · have := r.1; have := h.1.2.1; omega
    · exact r.2.1
theorem RM_is {k : Int} (h : RM g T N Z s) : (Z 56 11 = 0 ∧ Z 56 9 = k) ↔ gIs T N k s := by
  have p := RM_p h
  constructor
  · intro q
    have h0 := p.1.mp q.1
    exact ⟨h0, (p.2.1 h0).2.symm.trans q.2⟩
  · intro q
    exact ⟨p.1.mpr q.1, (p.2.1 q.1).2.trans q.2⟩
theorem RM_v (h : RM g T N Z s) (q : gIs T N 23 s) : Z 56 10 = tVl T N s.1 := by
  rcases h.2 with r | r
  · have := r.1; have := q.1; omega
  · exact r.2.2.2.2.2.2.2.1 q.2
def FM (Z Z' : xZ) : Prop := Z' 56 6 = Z 56 6 ∧ Z' 56 7 = Z 56 7 ∧ Z' 56 8 = Z 56 8 ∧ Z' 56 9 = Z 56 9 ∧ Z' 56 10 = Z 56 10 ∧ Z' 56 11 = Z 56 11 ∧ Z' 56 12 = Z 56 12 ∧ ∀ i, Z' 59 i = Z 59 i
theorem RM_f {g' : Int} {s' : SS} (h : RM g T N Z s) (f : FM Z Z') (e1 : s'.1 = s.1) (e2 : 0 ≤ s.1 → Z' 60 61 = g' + (s'.2.length : Int) ∧ ∀ j : Nat, j < s'.2.length → um (Z' 60 (62 + g' + (j : Int))) = s'.2.getD j 0) : RM g' T N Z' s' := by
  obtain ⟨f6, f7, f8, f9, f10, f11, f12, ft⟩ := f
  refine ⟨TM_c h.1 f8 ft, ?_⟩
  rcases h.2 with r | r
  · left
    refine ⟨?_, ?_, ?_⟩
    · rw [e1]; exact r.1
    · rw [f11]; exact r.2.1
    · rw [e1, f12, f11]; exact r.2.2
  · right
    obtain ⟨r1, r2, r3, r4, r5, r6, r7, r8, r9, r10⟩ := r
    refine ⟨?_, ?_, ?_, ?_, ?_, ?_, ?_, ?_, (e2 r1).1, (e2 r1).2⟩
    · rw [e1]; exact r1
    · rw [e1]; exact r2
    · rw [e1]; exact r3
    · rw [f11]; exact r4
    · rw [f6, e1]; exact r5
    · rw [f9, e1]; exact r6
    · rw [f7, e1]; exact r7
    · rw [f10, e1]; exact r8
theorem RM_c (h : RM g T N Z s) (f : FM Z Z') (e61 : Z' 60 61 = Z 60 61) (e60 : ∀ i, 62 ≤ i → Z' 60 i = Z 60 i) (hg : 0 ≤ g) : RM g T N Z' s := RM_f h f rfl (fun q => by
  rcases h.2 with r | r
  · have := r.1; omega
  · exact ⟨by rw [e61]; exact r.2.2.2.2.2.2.2.2.1, fun j hj => by rw [e60 _ (by omega)]; exact r.2.2.2.2.2.2.2.2.2 j hj⟩)
theorem RM_em {c : Int} (h : RM g T N Z s) (f : FM Z Z') (h11 : Z 56 11 = 0) (e61 : Z' 60 61 = Z 60 61 + 1) (ea : Z' 60 (62 + Z 60 61) = c) (e60 : ∀ i, 62 ≤ i → ¬ i = 62 + Z 60 61 → Z' 60 i = Z 60 i) (hg : 0 ≤ g) : RM g T N Z' (gEm (um c) s) := RM_f h f gEm_1 (fun q => by
  rcases h.2 with r | r
  · have := r.1; omega
  · have r9 := r.2.2.2.2.2.2.2.2.1
    have r10 := r.2.2.2.2.2.2.2.2.2
    rw [gEm_p q]
    show Z' 60 61 = g + ((s.2 ++ [um c]).length : Int) ∧ ∀ j : Nat, j < (s.2 ++ [um c]).length → um (Z' 60 (62 + g + (j : Int))) = (s.2 ++ [um c]).getD j 0
    rw [gD_l]
    refine ⟨by omega, fun j hj => ?_⟩
    by_cases hl : j < s.2.length
    · rw [gD_a _ _ _ hl, e60 _ (by omega) (by omega)]; exact r10 j hl
    · have ej : j = s.2.length := by omega
      subst ej
      rw [gD_e, show 62 + g + (s.2.length : Int) = 62 + Z 60 61 by omega, ea])
theorem RM_emx {c : Int} (h : RM g T N Z s) (h11 : ¬ Z 56 11 = 0) : gEm c s = s := gEm_n (by have p := (RM_p h).1; by_cases q : s.1 < 0; exact q; exact absurd (p.mpr (by omega)) h11)
/-- words from here on -/
theorem RM_rs (h : RM g T N Z s) : RM (Z 60 61) T N Z (gRs s) := by
  by_cases h0 : s.1 < 0
  · rw [show gRs s = s from if_pos h0]
    refine ⟨h.1, ?_⟩
    rcases h.2 with r | r
    · exact Or.inl r
    · have := r.1; omega
  · rw [show gRs s = (s.1, []) from if_neg h0]
    refine ⟨h.1, ?_⟩
    rcases h.2 with r | r
    · exact absurd r.1 h0
    · right
      obtain ⟨r1, r2, r3, r4, r5, r6, r7, r8, r9, r10⟩ := r
      exact ⟨r1, r2, r3, r4, r5, r6, r7, r8, (Int.add_zero _).symm, fun j hj => absurd hj (Nat.not_lt_zero j)⟩
theorem RM_ad (h : RM g T N Z s) (h11 : Z 56 11 = 0) (a : AW T N Z Z') (e11 : Z' 56 11 = Z 56 11) (e61 : Z' 60 61 = Z 60 61) (e60 : ∀ i, Z' 60 i = Z 60 i) (e1 : Z' 56 8 = Z 56 8) (e2 : ∀ i, Z' 59 i = Z 59 i) : RM g T N Z' (gAd T N s) := by
  refine ⟨TM_c h.1 e1 e2, ?_⟩
  rcases h.2 with r | r
  · have := r.2.1; omega
  · right
    obtain ⟨r1, r2, r3, r4, r5, r6, r7, r8, r9, r10⟩ := r
    obtain ⟨a6, a7, a9, a10⟩ := a
    rw [r7] at a6 a7 a9 a10
    have b := tNx_b (T := T) (N := N) s.1
    rw [gAd_p r1]
    refine ⟨show 0 ≤ tNx T N s.1 by omega, b.2.1 r2, b.2.2.2, e11.trans r4, a6, ?_, ?_, ?_, e61.trans r9, fun j hj => by rw [e60]; exact r10 j hj⟩
    · rw [a9]; show tKd T N (tEn T N s.1) = tKd T N (tBg T N (tEn T N s.1)); rw [tKd_b]
    · rw [a7]; show tEn T N (tEn T N s.1) = tEn T N (tBg T N (tEn T N s.1)); rw [tEn_i]
    · intro q
      have q2 : tKd T N (tBg T N (tEn T N s.1)) = 23 := q
      rw [tKd_b] at q2
      rw [a10 q2]; show tVl T N (tEn T N s.1) = tVl T N (tBg T N (tEn T N s.1)); rw [tVl_b]
theorem RM_ft {k : Int} (h : RM g T N Z s) (h11 : Z 56 11 = 0) (e12 : Z' 56 12 = Z 56 6) (e11 : (Z 56 9 = 25 → Z' 56 11 = 1) ∧ (¬ Z 56 9 = 25 → Z' 56 11 = k)) (hk : 1 ≤ k) (e1 : Z' 56 8 = Z 56 8) (e2 : ∀ i, Z' 59 i = Z 59 i) : RM g T N Z' (gFt T N k s) := by
  refine ⟨TM_c h.1 e1 e2, ?_⟩
  rcases h.2 with r | r
  · have := r.2.1; omega
  · left
    obtain ⟨r1, r2, r3, r4, r5, r6, r7, r8, r9, r10⟩ := r
    rw [gFt_p r1]
    have n := gFl_n (T := T) (N := N) (k := k) (c := s.1) hk r1
    refine ⟨n, ?_, ?_⟩
    · by_cases q : Z 56 9 = 25
      · rw [e11.1 q]; decide
      · rw [e11.2 q]; exact hk
    · show -(8 * s.1 + @ite _ (tKd T N s.1 = 25) (Classical.propDecidable _) 1 k) = _
      rw [e12, r5]
      by_cases q : Z 56 9 = 25
      · rw [e11.1 q, if_pos (r6.symm.trans q)]
      · rw [e11.2 q, if_neg (fun z => q (r6.trans z))]
theorem RM_fx {k : Int} (h : RM g T N Z s) (h11 : ¬ Z 56 11 = 0) : gFt T N k s = s := gFt_n (by have p := (RM_p h).1; by_cases q : s.1 < 0; exact q; exact absurd (p.mpr (by omega)) h11)
end RMa
