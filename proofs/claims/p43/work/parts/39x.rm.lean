/-! states of the reference's readers: more -/
section RMb
variable {T : Int → Int} {N g : Int} {Z Z' : xZ} {s : SS}
theorem RM_N (h : RM g T N Z s) : s.1 ≤ N := (RM_p h).2.2.1
theorem RM_k (h : RM g T N Z s) (h11 : Z 56 11 = 0) : 0 ≤ s.1 ∧ Z 56 9 = tKd T N s.1 := ⟨(RM_p h).1.mp h11, ((RM_p h).2.1 ((RM_p h).1.mp h11)).2⟩
theorem ee_y {k : Int} (q : gIs T N k s) : gEx T N k s = gEt T N k s := (gEx_y q).trans (gEt_y q).symm
theorem ee_n {k : Int} (q : ¬ gIs T N k s) : gEx T N k s = gFt T N 2 (gEt T N k s) := (gEx_n q).trans (congrArg (gFt T N 2) (gEt_n q).symm)
theorem gAd_em {w : Int} : gAd T N (gEm w s) = gEm w (gAd T N s) := by
  by_cases e : s.1 < 0
  · rw [gEm_n e, gAd_n e, gEm_n e]
  · have b := tNx_b (T := T) (N := N) s.1
    rw [gEm_p (by omega), gAd_p (s := (s.1, s.2 ++ [w])) (show 0 ≤ s.1 by omega), gAd_p (s := s) (by omega), gEm_p (show 0 ≤ tNx T N s.1 by omega)]
theorem at_dm {L : Option LVT} {v : Int} (q : gIs T N 23 s) (hv : v = tVl T N s.1) (hr : 0 ≤ v ∧ v ≤ 999) : atX T N L s = gAd T N (gEm v s) := by
  subst hv
  rw [gAd_em, at_d q, gTk_y q hr]
theorem at_wm {L : Option LVT} {w : Int} (h0 : 0 ≤ s.1) (h : (tKd T N s.1 = 1 ∧ w = 1004) ∨ (9 ≤ tKd T N s.1 ∧ tKd T N s.1 ≤ 12 ∧ w = 991 + tKd T N s.1)) : atX T N L s = gAd T N (gEm w s) := by
  rcases h with ⟨h1, h2⟩ | ⟨h1, h2, h3⟩
  · subst h2; exact at_1 ⟨h0, h1⟩
  · exact at_w h0 ⟨h1, h2⟩ h3
noncomputable def ifX (T : Int → Int) (N : Int) (L : Option LVT) (s : SS) : SS := inX T N L (fun l t => chX T N l t) s
/-- behind the first sum of a comparison -/
noncomputable def cjX (T : Int → Int) (N : Int) (t : SS) : SS := @ite _ (0 ≤ t.1 ∧ 39 ≤ tKd T N t.1 ∧ tKd T N t.1 ≤ 41) (Classical.propDecidable _) (gAd T N t) (gFt T N 2 t)
theorem cj_y (h : 0 ≤ s.1 ∧ 39 ≤ tKd T N s.1 ∧ tKd T N s.1 ≤ 41) : cjX T N s = gAd T N s := if_pos h
theorem cj_n (h : ¬ (0 ≤ s.1 ∧ 39 ≤ tKd T N s.1 ∧ tKd T N s.1 ≤ 41)) : cjX T N s = gFt T N 2 s := if_neg h
theorem cp_j {L : Option LVT} (hL : GoL N L) {w : Int} (hs : s.1 ≤ N) (hw : 0 ≤ s.1 → 39 ≤ tKd T N s.1 → tKd T N s.1 ≤ 41 → w = 974 + tKd T N s.1) : cqX T N L s = gEm w (smX T N L (cjX T N s)) := by
  by_cases h : 0 ≤ s.1 ∧ 39 ≤ tKd T N s.1 ∧ tKd T N s.1 ≤ 41
  · rw [cj_y h]; exact cq_y h.1 ⟨h.2.1, h.2.2⟩ (hw h.1 h.2.1 h.2.2)
  · have n : (gFt T N 2 s).1 < 0 := gFt_1 (by decide)
    have hN : (gFt T N 2 s).1 ≤ N := (gFt_go (by decide)).le hs
    rw [cj_n h, cq_n h, ((smX_go hL) _ hN).1 n, gEm_n n]
theorem um_a {c : Int} (h : c < 3000) : c = um c := (if_pos h).symm
theorem um_b {c : Int} (h : 3000 ≤ c ∧ c ≤ 3005) : c - 1990 = um c := ((if_neg (by omega)).trans (if_pos h.2)).symm
theorem um_l : (1012 : Int) = um 3002 ∧ (1018 : Int) = um 3006 ∧ (1016 : Int) = um 3007 ∧ (1017 : Int) = um 3008 ∧ (1019 : Int) = um 3009 := by decide
/-- the lines' states: from where the words lie is left open -/
def RMx (T : Int → Int) (N : Int) (Z : xZ) (s : SS) : Prop := ∃ g : Int, 0 ≤ g ∧ RM g T N Z s
theorem RMx_e {s' : SS} (h : RMx T N Z s) (e : s' = s) : RMx T N Z s' := e ▸ h
theorem RMx_t (h : RMx T N Z s) : TM T N Z := by
  obtain ⟨g, _, h⟩ := h
  exact RM_t h
theorem RMx_c (h : RMx T N Z s) (f : FM Z Z') (e61 : Z' 60 61 = Z 60 61) (e60 : ∀ i, 62 ≤ i → Z' 60 i = Z 60 i) (_ : True) : RMx T N Z' s := by
  obtain ⟨g, hg, h⟩ := h
  exact ⟨g, hg, RM_c h f e61 e60 hg⟩
theorem RMx_p (h : RMx T N Z s) : (Z 56 11 = 0 ↔ 0 ≤ s.1) ∧ (0 ≤ s.1 → Z 56 6 = s.1 ∧ Z 56 9 = tKd T N s.1) ∧ s.1 ≤ N ∧ Z 56 8 = N := by
  obtain ⟨g, _, h⟩ := h
  exact RM_p h
theorem RMx_is {k : Int} (h : RMx T N Z s) : (Z 56 11 = 0 ∧ Z 56 9 = k) ↔ gIs T N k s := by
  obtain ⟨g, _, h⟩ := h
  exact RM_is h
theorem RMx_rs (h : RMx T N Z s) : RM (Z 60 61) T N Z (gRs s) := by
  obtain ⟨g, _, h⟩ := h
  exact RM_rs h
theorem RMx_f (h : RMx T N Z s) : (¬ Z 56 11 = 0 → s.1 = -(8 * Z 56 12 + Z 56 11) ∧ s.1 < 0) := by
  obtain ⟨g, _, h⟩ := h
  intro q
  rcases h.2 with r | r
  · exact ⟨r.2.2, r.1⟩
  · exact absurd r.2.2.2.1 q
/-- a law -/
noncomputable def lwS (T : Int → Int) (N x : Int) (s : SS) : SS := @ite _ (x = 0) (Classical.propDecidable _) (lgS T N s) (lmS T N s)
theorem lw_0 {x : Int} (h : x = 0) : lwS T N x s = smX T N (lvI T N 0) (gRs (gEx T N 31 (gAd T N s))) := if_pos h
theorem lw_1 {x : Int} (h : ¬ x = 0) : lwS T N x s = trX T N (lvI T N 0) (gRs (gEx T N 31 (gAd T N s))) := if_neg h
theorem ln_w {t x : Int} (h : (x = 0 ∧ gIs T N 3 s) ∨ (x = 1 ∧ gIs T N 4 s)) : lnS T N s t = lwS T N x s := by
  rcases h with ⟨h1, h2⟩ | ⟨h1, h2⟩
  · rw [lw_0 h1, ln_g h2]
  · rw [lw_1 (by omega), ln_m h2]
/-- the first token -/
theorem RMx_0 (hT : TM T N Z') (a : AW T N Z Z') (h7 : Z 56 7 = 0) (e11 : Z' 56 11 = 0) (e61 : 0 ≤ Z' 60 61) : RMx T N Z' (tBg T N 0, []) := by
  refine ⟨Z' 60 61, e61, hT, Or.inr ?_⟩
  obtain ⟨a6, a7, a9, a10⟩ := a
  rw [h7] at a6 a7 a9 a10
  have b := tBg_e (T := T) (N := N) 0
  have hN := hT.2.1
  refine ⟨show 0 ≤ tBg T N 0 by omega, b.2.2.2 (by omega), tBg_i 0, e11, a6, ?_, ?_, ?_, (Int.add_zero _).symm, fun j hj => absurd hj (Nat.not_lt_zero j)⟩
  · rw [a9]; show tKd T N 0 = tKd T N (tBg T N 0); rw [tKd_b]
  · rw [a7]; show tEn T N 0 = tEn T N (tBg T N 0); rw [tEn_i]
  · intro q
    have q2 : tKd T N (tBg T N 0) = 23 := q
    rw [tKd_b] at q2
    rw [a10 q2]; show tVl T N 0 = tVl T N (tBg T N 0); rw [tVl_b]
def TE (T : Int → Int) (N : Int) (Z : xZ) : Prop := ∀ i, 0 ≤ i → i < N → T i = Z 59 i
theorem TE_c (h : TE T N Z) (e : ∀ i, Z' 59 i = Z 59 i) : TE T N Z' := fun i a b => by rw [e]; exact h i a b
theorem TE_m (h : TE T N Z) (h8 : Z 56 8 = N) (h0 : 0 ≤ N ∧ N ≤ 900) : TM T N Z := ⟨h8, h0.1, h0.2, h⟩
/-- what barn() answers there -/
theorem BR_m {t n z k p : Int} (h : RMx T N Z s) (r : RZ T N s t n) (h1 : ¬ Z 56 11 = 0 → k = Z 56 11 ∧ p = Z 56 12 ∧ z = -30 - k ∧ 1 ≤ k) (h2 : Z 56 11 = 0 → k = 0 ∧ p = -1 ∧ z = n) : BR T N z k p := by
  have e := r.1
  have f := RMx_f h
  have q := (RMx_p h).1
  unfold BR
  by_cases e11 : Z 56 11 = 0
  · have h0 := q.mp e11
    have r2 := (r.2 h0).1
    have := h2 e11
    rw [e]
    exact ⟨fun x => by omega, fun _ => by omega⟩
  · have := f e11
    have := h1 e11
    rw [e]
    exact ⟨fun _ => by omega, fun x => by omega⟩
end RMb
/-! numbers taken, going in, heaps, the first line: as the reference does them -/
section RMc
variable {T : Int → Int} {N : Int} {s : SS}
noncomputable def gTJ (T : Int → Int) (N lo hi : Int) (s : SS) : SS := @ite _ (gIs T N 23 s) (Classical.propDecidable _) (@ite _ (lo ≤ tVl T N s.1 ∧ tVl T N s.1 ≤ hi) (Classical.propDecidable _) s (gFt T N 3 s)) (gFt T N 2 s)
theorem gTJ_2 {lo hi : Int} (h : ¬ gIs T N 23 s) : gTJ T N lo hi s = gFt T N 2 s := if_neg h
theorem gTJ_3 {lo hi : Int} (h : gIs T N 23 s) (h2 : ¬ (lo ≤ tVl T N s.1 ∧ tVl T N s.1 ≤ hi)) : gTJ T N lo hi s = gFt T N 3 s := (if_pos h).trans (if_neg h2)
theorem gTJ_y {lo hi : Int} (h : gIs T N 23 s) (h2 : lo ≤ tVl T N s.1 ∧ tVl T N s.1 ≤ hi) : gTJ T N lo hi s = s := (if_pos h).trans (if_pos h2)
theorem gTJ_a {lo hi : Int} (h : 0 ≤ (gTJ T N lo hi s).1) : gTk T N lo hi s = gAd T N (gTJ T N lo hi s) := by
  by_cases g : gIs T N 23 s
  · by_cases v : lo ≤ tVl T N s.1 ∧ tVl T N s.1 ≤ hi
    · rw [gTk_y g v, gTJ_y g v]
    · rw [gTJ_3 g v] at h
      have := gFt_1 (T := T) (N := N) (k := 3) (s := s) (by decide)
      omega
  · rw [gTJ_2 g] at h
    have := gFt_1 (T := T) (N := N) (k := 2) (s := s) (by decide)
    omega
theorem gTJ_d {lo hi : Int} (h : ¬ 0 ≤ (gTJ T N lo hi s).1) : gTk T N lo hi s = gTJ T N lo hi s := by
  by_cases g : gIs T N 23 s
  · by_cases v : lo ≤ tVl T N s.1 ∧ tVl T N s.1 ≤ hi
    · rw [gTJ_y g v] at h
      exact absurd g.1 h
    · rw [gTk_3 g v, gTJ_3 g v]
  · rw [gTk_2 g, gTJ_2 g]
theorem gTk_v {lo hi v : Int} (hv : gIs T N 23 s → v = tVl T N s.1) : 0 ≤ (gTk T N lo hi s).1 → v = tVl T N s.1 := fun h => by
  by_cases g : gIs T N 23 s
  · exact hv g
  · rw [gTk_2 g] at h
    have := gFt_1 (T := T) (N := N) (k := 2) (s := s) (by decide)
    omega
noncomputable def gEj (T : Int → Int) (N x : Int) (s : SS) : SS := @ite _ (x = 6) (Classical.propDecidable _) (gFt T N 4 s) s
theorem gEj_y {x : Int} (h : x = 6) : gEj T N x s = gFt T N 4 s := if_pos h
theorem gEj_n {x : Int} (h : ¬ x = 6) : gEj T N x s = s := if_neg h
theorem gEj_d {x : Int} (hx : x ≤ 6) (h : ¬ 0 ≤ (gEj T N x s).1) : gEn T N x s = gEj T N x s := by
  by_cases e : x = 6
  · rw [gEj_y e, gEn_n (by omega)]
  · rw [gEj_n e] at h ⊢
    rw [gEn_y (by omega), gAd_n (by omega)]
theorem gEj_a {x : Int} (hx : x ≤ 6) (h : 0 ≤ (gEj T N x s).1) : gEn T N x s = gAd T N (gEj T N x s) := by
  by_cases e : x = 6
  · rw [gEj_y e] at h
    have := gFt_1 (T := T) (N := N) (k := 4) (s := s) (by decide)
    omega
  · rw [gEj_n e, gEn_y (by omega)]
def LYM (T : Int → Int) (N : Int) (s : SS) (t t' : Int) : Prop := 0 ≤ (lhS T N s t).1 → t' = t + tVl T N (gAd T N s).1
theorem LYM_d {t t' : Int} (h : ¬ 0 ≤ (lhS T N s t).1) : LYM T N s t t' := fun q => absurd q h
theorem LYM_h {t t' z : Int} (hz : 0 ≤ (gTk T N 1 (18 - t) (gAd T N s)).1 → z = tVl T N (gAd T N s).1) (e : t' = t + z) : LYM T N s t t' := fun q => by rw [e, hz q]
theorem LY_m {t t' : Int} (g : gIs T N 2 s) (h : LYM T N s t t') : LY T N s t t' := fun q => by
  rw [ln_h g] at q
  rw [if_pos g]
  exact h q
theorem LY_e {t t' t2 : Int} (h : LY T N s t t') (e : t2 = t') : LY T N s t t2 := by rw [e]; exact h
theorem rdA_0 (h : ¬ gIs T N 0 (tBg T N 0, [])) : gFt T N 2 (gEt T N 0 (tBg T N 0, [])) = rdA T N := by
  have n := gFt_1 (T := T) (N := N) (k := 2) (s := (tBg T N 0, [])) (by decide)
  unfold rdA
  rw [gEt_n h, gEx_n h, gEx_n (gIs_n n), gFt_n n]
theorem rdA_1 (h0 : gIs T N 0 (tBg T N 0, [])) (h1 : ¬ gIs T N 1 (gEt T N 0 (tBg T N 0, []))) : gFt T N 2 (gEt T N 1 (gEt T N 0 (tBg T N 0, []))) = rdA T N := by
  unfold rdA
  rw [ee_y h0, ee_n h1]
theorem rdA_2 (h0 : gIs T N 0 (tBg T N 0, [])) (h1 : gIs T N 1 (gEt T N 0 (tBg T N 0, []))) : rdA T N = gEt T N 1 (gEt T N 0 (tBg T N 0, [])) := by
  unfold rdA
  rw [ee_y h0, ee_y h1]
end RMc
