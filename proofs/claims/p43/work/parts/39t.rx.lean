/-! states of the readers: ends of loops, signs -/
section RXa
variable {T : Int → Int} {N : Int} {Z Z' : xZ} {s : SS}
theorem kk_d {k : Int} (h : Nat.ble 42 k.toNat = false) (h2 : 0 ≤ k) (h3 : ¬ (16 ≤ k ∧ k ≤ 21) ∧ ¬ (26 ≤ k ∧ k ≤ 29)) : tKk k := by
  have : ¬ 42 ≤ k.toNat := fun q => by rw [Nat.ble_eq.mpr q] at h; cases h
  unfold tKk
  omega
theorem RC_x {k : Int} (h : RC T N Z s) (q : Z 3 4 = 3 ∨ N ≤ Z 3 3) (hk : ¬ k = 24) : ¬ gIs T N k s := fun g => by
  have p := RC_p h
  have p2 := p.2.1 g.1
  have g0 := g.1
  have b := tBg_e (T := T) (N := N) s.1
  have n3 : ¬ Z 3 4 = 3 := fun e => by have := p.1.mpr e; omega
  have e := tKd_end (T := T) (N := N) (p := s.1) (by omega)
  exact hk (g.2.symm.trans e.1)
theorem RC_q (h : RC T N Z s) : ((0 ≤ s.1 ∧ 39 ≤ tKd T N s.1 ∧ tKd T N s.1 ≤ 41) ↔ (Z 3 4 = 61 ∨ Z 3 4 = 60 ∨ Z 3 4 = 62)) ∧ (Z 3 4 = 61 → tKd T N s.1 = 39) ∧ (Z 3 4 = 60 → tKd T N s.1 = 40) ∧ (Z 3 4 = 62 → tKd T N s.1 = 41) := by
  have a := RC_is (k := 39) (v := 61) h (by unfold tKk; omega) rfl
  have b := RC_is (k := 40) (v := 60) h (by unfold tKk; omega) rfl
  have c := RC_is (k := 41) (v := 62) h (by unfold tKk; omega) rfl
  refine ⟨⟨fun q => ?_, fun q => ?_⟩, fun q => (a.mp q).2, fun q => (b.mp q).2, fun q => (c.mp q).2⟩
  · obtain ⟨q0, q1, q2⟩ := q
    by_cases e1 : tKd T N s.1 = 39
    · exact Or.inl (a.mpr ⟨q0, e1⟩)
    · by_cases e2 : tKd T N s.1 = 40
      · exact Or.inr (Or.inl (b.mpr ⟨q0, e2⟩))
      · exact Or.inr (Or.inr (c.mpr ⟨q0, by omega⟩))
  · rcases q with q | q | q
    · have g := a.mp q
      have g2 := g.2
      exact ⟨g.1, by omega, by omega⟩
    · have g := b.mp q
      have g2 := g.2
      exact ⟨g.1, by omega, by omega⟩
    · have g := c.mp q
      have g2 := g.2
      exact ⟨g.1, by omega, by omega⟩
theorem RC_s (h : RC T N Z s) (q : Z 3 4 = 43 ∨ Z 3 4 = 45) : 0 ≤ s.1 ∧ (tKd T N s.1 = 32 ∨ tKd T N s.1 = 33) ∧ (Z 3 4 = 43 → tKd T N s.1 = 32) ∧ (¬ Z 3 4 = 43 → tKd T N s.1 = 33) := by
  have a := RC_is (k := 32) (v := 43) h (by unfold tKk; omega) rfl
  have b := RC_is (k := 33) (v := 45) h (by unfold tKk; omega) rfl
  by_cases e : Z 3 4 = 43
  · have g := a.mp e
    exact ⟨g.1, Or.inl g.2, fun _ => g.2, fun n => absurd e n⟩
  · have g := b.mp (q.resolve_left e)
    exact ⟨g.1, Or.inr g.2, fun n => absurd n e, fun _ => g.2⟩
/-- alive, dead -/
theorem RC_a (h : RC T N Z s) (q : ¬ Z 3 4 = 3) : 0 ≤ s.1 := by
  have p := (RC_p h).1
  by_cases e : s.1 < 0
  · exact absurd (p.mp e) q
  · omega
theorem gEm_z {t : SS} {z w : Int} (h : 0 ≤ t.1 → z = w) : gEm w t = gEm z t := by
  by_cases e : t.1 < 0
  · rw [gEm_n e, gEm_n e]
  · rw [h (by omega)]
/-- the first token -/
theorem RC_0 {l : List Int} (hT : TX T N Z') (a : AV T N Z Z') (h14 : Z 3 14 = 0) (h2 : Z 3 2 = 0) (e14 : Z' 3 14 = 0) (e15 : Z' 3 15 = -1) (e7 : Z' 3 7 = (l.length : Int)) (e5 : ∀ j : Nat, j < l.length → Z' 5 (j : Int) = l.getD j 0) : RC T N Z' (tBg T N 0, l) := by
  refine ⟨hT, Or.inr ⟨e15, ?_⟩⟩
  obtain ⟨a3, a2, a4, a5⟩ := a.2 h14
  rw [h2] at a3 a2 a4 a5
  have b := tBg_e (T := T) (N := N) 0
  have hN := hT.2.1
  refine ⟨show 0 ≤ tBg T N 0 by omega, b.2.2.2 (by omega), tBg_i 0, e14, a3, ?_, ?_, ?_, e7, e5⟩
  · rw [a4]; show tCk (tKd T N 0) = tCk (tKd T N (tBg T N 0)); rw [tKd_b]
  · rw [a2]; show tEn T N 0 = tEn T N (tBg T N 0); rw [tEn_i]
  · intro q
    have q2 : tKd T N (tBg T N 0) = 23 := q
    rw [tKd_b] at q2
    rw [a5 q2]; show tVl T N 0 = tVl T N (tBg T N 0); rw [tVl_b]
/-- a list of what lies there -/
theorem li_x (Z : Int → Int) : ∀ n : Nat, ∃ l : List Int, l.length = n ∧ ∀ j : Nat, j < n → Z (j : Int) = l.getD j 0
  | 0 => ⟨[], rfl, fun j h => absurd h (Nat.not_lt_zero j)⟩
  | n + 1 => by
    obtain ⟨l, h1, h2⟩ := li_x Z n
    refine ⟨l ++ [Z (n : Int)], by rw [gD_l, h1], fun j hj => ?_⟩
    by_cases e : j < n
    · rw [gD_a _ _ _ (by omega)]; exact h2 j e
    · have ej : j = n := by omega
      subst ej
      rw [← h1, gD_e]
theorem li_z (Z : xZ) (k : Nat) {c : Int} (h : 0 ≤ c) : ∃ l : List Int, c = (l.length : Int) ∧ ∀ j : Nat, j < l.length → Z k (j : Int) = l.getD j 0 := by
  obtain ⟨l, h1, h2⟩ := li_x (Z k) c.toNat
  exact ⟨l, by omega, fun j hj => h2 j (by omega)⟩
theorem tCk_22 : tCk 22 = 299 := rfl
theorem tCk_23 : tCk 23 = 1 := rfl
theorem tCk_24 : tCk 24 = 0 := rfl
theorem tCk_25 : tCk 25 = 2 := rfl
/-- a byte and its number -/
theorem by_s {t z : Int} (h : t = z % 256) (hb : -128 ≤ z ∧ z ≤ 127) : (0 ≤ z → t = z) ∧ (z < 0 → t = z + 256) ∧ 0 ≤ t ∧ t ≤ 255 := by omega
end RXa
/-! a whole text: heaps, laws, lines -/
abbrev XX := List Int × Option (List Int) × Option (List Int)
abbrev LQ := SS × XX × Int
def tot : List Int → Int
  | [] => 0
  | a :: l => a + tot l
theorem tot_a : ∀ (l : List Int) (a : Int), tot (l ++ [a]) = tot l + a
  | [], a => by show a + 0 = 0 + a; omega
  | b :: l, a => by show b + tot (l ++ [a]) = b + tot l + a; rw [tot_a l a]; omega
section LNa
variable (T : Int → Int) (N : Int)
noncomputable def lhS (s : SS) (t : Int) : SS := gTk T N 1 (18 - t) (gAd T N s)
noncomputable def lbS (s : SS) : SS := gRs (gEx T N 31 (gAd T N s))
noncomputable def lgS (s : SS) : SS := smX T N (lvI T N 0) (lbS T N s)
noncomputable def lmS (s : SS) : SS := trX T N (lvI T N 0) (lbS T N s)
noncomputable def lnS (s : SS) (t : Int) : SS := @ite _ (gIs T N 2 s) (Classical.propDecidable _) (lhS T N s t) (@ite _ (gIs T N 3 s) (Classical.propDecidable _) (lgS T N s) (@ite _ (gIs T N 4 s) (Classical.propDecidable _) (lmS T N s) (gFt T N 2 s)))
noncomputable def lnY (s : SS) (x : XX) : XX := @ite _ (gIs T N 2 s) (Classical.propDecidable _) (x.1 ++ [tVl T N (gAd T N s).1], x.2) (@ite _ (gIs T N 3 s) (Classical.propDecidable _) (x.1, some (lgS T N s).2, x.2.2) (@ite _ (gIs T N 4 s) (Classical.propDecidable _) (x.1, x.2.1, some (lmS T N s).2) x))
noncomputable def lqS (q : LQ) : LQ := (gEx T N 30 (lnS T N q.1 (tot q.2.1.1)), lnY T N q.1 q.2.1, q.2.2 + 1)
noncomputable def lqF : Nat → LQ → LQ
  | 0, q => q
  | f + 1, q => @ite _ (0 ≤ q.1.1 ∧ ¬ tKd T N q.1.1 = 24) (Classical.propDecidable _) (lqF f (lqS T N q)) q
noncomputable def lqL (q : LQ) : LQ := lqF T N (N + 1 - q.1.1).toNat q
/-- what stands behind the barn's own line, its SEASON -/
noncomputable def rdA : SS := gEx T N 1 (gEx T N 0 (tBg T N 0, []))
noncomputable def rd0 : LQ := (gEx T N 30 (gTk T N 0 9 (rdA T N)), ([], none, none), 1)
noncomputable def rdX : LQ := lqL T N (rd0 T N)
/-- what is all together, where nothing is wrong -/
def LT (s : SS) (x : XX) (t : Int) : Prop := 0 ≤ s.1 → t = tot x.1
/-- the lines up to here -/
def LK (s : SS) (t n : Int) : Prop := ∃ (s0 : SS) (x : XX), s0.1 = s.1 ∧ lqL T N (s0, x, n) = rdX T N ∧ LT s x t
/-- the end -/
def RZ (s : SS) (t n : Int) : Prop := (rdX T N).1.1 = s.1 ∧ (0 ≤ s.1 → (rdX T N).2.2 = n ∧ t = tot (rdX T N).2.1.1)
end LNa
section LNb
variable {T : Int → Int} {N : Int}
theorem gRs_1 {s : SS} : (gRs s).1 = s.1 := by
  unfold gRs
  split <;> rfl
theorem gRs_go : Go N gRs := by
  intro s hs
  refine ⟨fun h => if_pos h, fun h => ?_⟩
  rw [gRs_1]
  exact Or.inr ⟨Int.le_refl _, hs⟩
theorem lnS_t {s : SS} {t : Int} (hs : s.1 ≤ N) (h0 : 0 ≤ s.1) (hk : ¬ tKd T N s.1 = 24) : (lnS T N s t).1 < 0 ∨ (s.1 + 1 ≤ (lnS T N s t).1 ∧ (lnS T N s t).1 ≤ N) := by
  unfold lnS
  split
  · exact turn_b gTk_go hs h0 hk
  · split
    · exact turn_b (F := fun t => smX T N (lvI T N 0) (gRs (gEx T N 31 t))) ((smX_go (lvI_go 0)).comp (gRs_go.comp gEx_go)) hs h0 hk
    · split
      · exact turn_b (F := fun t => trX T N (lvI T N 0) (gRs (gEx T N 31 t))) ((trX_go (lvI_go 0)).comp (gRs_go.comp gEx_go)) hs h0 hk
      · exact Or.inl (gFt_1 (by decide))
theorem lqS_t {q : LQ} (hs : q.1.1 ≤ N) (h0 : 0 ≤ q.1.1) (hk : ¬ tKd T N q.1.1 = 24) : (lqS T N q).1.1 < 0 ∨ (q.1.1 + 1 ≤ (lqS T N q).1.1 ∧ (lqS T N q).1.1 ≤ N) := by
  have a := lnS_t (t := tot q.2.1.1) hs h0 hk
  have hN : 0 ≤ N := by omega
  show (gEx T N 30 (lnS T N q.1 (tot q.2.1.1))).1 < 0 ∨ (q.1.1 + 1 ≤ (gEx T N 30 (lnS T N q.1 (tot q.2.1.1))).1 ∧ (gEx T N 30 (lnS T N q.1 (tot q.2.1.1))).1 ≤ N)
  have g := gEx_go (T := T) (N := N) (k := 30) (lnS T N q.1 (tot q.2.1.1)) (by omega)
  by_cases e : (lnS T N q.1 (tot q.2.1.1)).1 < 0
  · rw [g.1 e]; exact Or.inl e
  · have := g.2 (by omega)
    omega
theorem lqF_n {q : LQ} (h : ¬ (0 ≤ q.1.1 ∧ ¬ tKd T N q.1.1 = 24)) : ∀ f, lqF T N f q = q
  | 0 => rfl
  | f + 1 => if_neg h
theorem lqF_s {f : Nat} {q : LQ} (h : 0 ≤ q.1.1 ∧ ¬ tKd T N q.1.1 = 24) : lqF T N (f + 1) q = lqF T N f (lqS T N q) := if_pos h
theorem lqF_f : ∀ (f g : Nat) (q : LQ), q.1.1 ≤ N → (0 ≤ q.1.1 → (N + 1 - q.1.1).toNat ≤ f) → (0 ≤ q.1.1 → (N + 1 - q.1.1).toNat ≤ g) → lqF T N f q = lqF T N g q
  | 0, g, q, h1, h2, h3 => by
    have hn : ¬ (0 ≤ q.1.1 ∧ ¬ tKd T N q.1.1 = 24) := fun z => by have := h2 z.1; omega
    rw [lqF_n hn, lqF_n hn]
  | f + 1, 0, q, h1, h2, h3 => by
    have hn : ¬ (0 ≤ q.1.1 ∧ ¬ tKd T N q.1.1 = 24) := fun z => by have := h3 z.1; omega
    rw [lqF_n hn, lqF_n hn]
  | f + 1, g + 1, q, h1, h2, h3 => by
    by_cases hk : 0 ≤ q.1.1 ∧ ¬ tKd T N q.1.1 = 24
    · rw [lqF_s hk, lqF_s hk]
      have t := lqS_t (T := T) h1 hk.1 hk.2
      have p2 := h2 hk.1
      have p3 := h3 hk.1
      exact lqF_f f g _ (by omega) (fun _ => by omega) (fun _ => by omega)
    · rw [lqF_n hk, lqF_n hk]
theorem lqL_n {q : LQ} (h : ¬ (0 ≤ q.1.1 ∧ ¬ tKd T N q.1.1 = 24)) : lqL T N q = q := lqF_n h _
theorem lqL_s {q : LQ} (hs : q.1.1 ≤ N) (h : 0 ≤ q.1.1 ∧ ¬ tKd T N q.1.1 = 24) : lqL T N q = lqL T N (lqS T N q) := by
  have t := lqS_t (T := T) hs h.1 h.2
  have h0 := h.1
  have e : lqL T N q = lqF T N (N - q.1.1).toNat (lqS T N q) := by
    unfold lqL
    rw [show (N + 1 - q.1.1).toNat = (N - q.1.1).toNat + 1 by omega]
    exact lqF_s h
  rw [e]
  exact lqF_f _ _ _ (by omega) (fun _ => by omega) (fun _ => by omega)
/-- where the tokens stand alike, all but the elder words is alike -/
theorem gAd_m {s t : SS} (h : s.1 = t.1) : (gAd T N s).1 = (gAd T N t).1 := by
  by_cases e : s.1 < 0
  · rw [gAd_n e, gAd_n (h ▸ e)]; exact h
  · rw [gAd_p (by omega), gAd_p (s := t) (by omega)]; show tNx T N s.1 = tNx T N t.1; rw [h]
theorem gFt_m {k : Int} {s t : SS} (h : s.1 = t.1) : (gFt T N k s).1 = (gFt T N k t).1 := by
  by_cases e : s.1 < 0
  · rw [gFt_n e, gFt_n (h ▸ e)]; exact h
  · rw [gFt_p (by omega), gFt_p (s := t) (by omega)]; show gFl T N k s.1 = gFl T N k t.1; rw [h]
theorem gIs_m {k : Int} {s t : SS} (h : s.1 = t.1) : gIs T N k s ↔ gIs T N k t := by
  unfold gIs
  rw [h]
theorem gEx_m {k : Int} {s t : SS} (h : s.1 = t.1) : (gEx T N k s).1 = (gEx T N k t).1 := by
  by_cases g : gIs T N k s
  · rw [gEx_y g, gEx_y ((gIs_m h).mp g)]; exact gAd_m h
  · rw [gEx_n g, gEx_n (fun q => g ((gIs_m h).mpr q))]; exact gFt_m h
theorem gTk_m {lo hi : Int} {s t : SS} (h : s.1 = t.1) : (gTk T N lo hi s).1 = (gTk T N lo hi t).1 := by
  by_cases g : gIs T N 23 s
  · by_cases v : lo ≤ tVl T N s.1 ∧ tVl T N s.1 ≤ hi
    · rw [gTk_y g v, gTk_y ((gIs_m h).mp g) (h ▸ v)]; exact gAd_m h
    · rw [gTk_3 g v, gTk_3 ((gIs_m h).mp g) (h ▸ v)]; exact gFt_m h
  · rw [gTk_2 g, gTk_2 (fun q => g ((gIs_m h).mpr q))]; exact gFt_m h
theorem gFt_e {k : Int} {s t : SS} (h : s.1 = t.1) (h0 : 0 ≤ s.1) : gFt T N k s = gFt T N k t := by
  rw [gFt_p h0, gFt_p (s := t) (by omega), h]
theorem lbS_m {s t : SS} (h : s.1 = t.1) (h0 : 0 ≤ s.1) (hs : s.1 ≤ N) : lbS T N s = lbS T N t := by
  unfold lbS
  have a := gAd_m (T := T) (N := N) h
  have a0 : 0 ≤ (gAd T N s).1 := by
    have b := tNx_b (T := T) (N := N) s.1
    rw [gAd_p h0]; show 0 ≤ tNx T N s.1; omega
  by_cases g : gIs T N 31 (gAd T N s)
  · rw [gEx_y g, gEx_y ((gIs_m a).mp g)]
    have c := gAd_m (T := T) (N := N) a
    have c0 : 0 ≤ (gAd T N (gAd T N s)).1 := by
      have b := tNx_b (T := T) (N := N) (gAd T N s).1
      rw [gAd_p a0]; show 0 ≤ tNx T N (gAd T N s).1; omega
    rw [show gRs (gAd T N (gAd T N s)) = ((gAd T N (gAd T N s)).1, []) from if_neg (by omega), show gRs (gAd T N (gAd T N t)) = ((gAd T N (gAd T N t)).1, []) from if_neg (by omega), c]
  · rw [gEx_n g, gEx_n (fun q => g ((gIs_m a).mpr q)), gFt_e a a0]
theorem lnS_m {s s0 : SS} {t : Int} (h : s0.1 = s.1) (h0 : 0 ≤ s.1) (hs : s.1 ≤ N) : (lnS T N s0 t).1 = (lnS T N s t).1 := by
  have b := lbS_m (T := T) (N := N) h (by omega) (by omega)
  unfold lnS
  by_cases g2 : gIs T N 2 s
  · rw [if_pos g2, if_pos ((gIs_m h).mpr g2)]; exact gTk_m (gAd_m h)
  · rw [if_neg g2, if_neg (fun q => g2 ((gIs_m h).mp q))]
    by_cases g3 : gIs T N 3 s
    · rw [if_pos g3, if_pos ((gIs_m h).mpr g3)]; unfold lgS; rw [b]
    · rw [if_neg g3, if_neg (fun q => g3 ((gIs_m h).mp q))]
      by_cases g4 : gIs T N 4 s
      · rw [if_pos g4, if_pos ((gIs_m h).mpr g4)]; unfold lmS; rw [b]
      · rw [if_neg g4, if_neg (fun q => g4 ((gIs_m h).mp q))]; exact gFt_m h
theorem lnY_m {s s0 : SS} {x : XX} (h : s0.1 = s.1) (h0 : 0 ≤ s.1) (hs : s.1 ≤ N) : lnY T N s0 x = lnY T N s x := by
  have b := lbS_m (T := T) (N := N) h (by omega) (by omega)
  unfold lnY
  by_cases g2 : gIs T N 2 s
  · rw [if_pos g2, if_pos ((gIs_m h).mpr g2), gAd_m h]
  · rw [if_neg g2, if_neg (fun q => g2 ((gIs_m h).mp q))]
    by_cases g3 : gIs T N 3 s
    · rw [if_pos g3, if_pos ((gIs_m h).mpr g3)]; unfold lgS; rw [b]
    · rw [if_neg g3, if_neg (fun q => g3 ((gIs_m h).mp q))]
      by_cases g4 : gIs T N 4 s
      · rw [if_pos g4, if_pos ((gIs_m h).mpr g4)]; unfold lmS; rw [b]
      · rw [if_neg g4, if_neg (fun q => g4 ((gIs_m h).mp q))]
/-- lines -/
theorem ln_h {s : SS} {t : Int} (g : gIs T N 2 s) : lnS T N s t = gTk T N 1 (18 - t) (gAd T N s) := if_pos g
theorem ln_g {s : SS} {t : Int} (g : gIs T N 3 s) : lnS T N s t = smX T N (lvI T N 0) (gRs (gEx T N 31 (gAd T N s))) := (if_neg (gIs_u g (by decide))).trans (if_pos g)
theorem ln_m {s : SS} {t : Int} (g : gIs T N 4 s) : lnS T N s t = trX T N (lvI T N 0) (gRs (gEx T N 31 (gAd T N s))) := (if_neg (gIs_u g (by decide))).trans ((if_neg (gIs_u g (by decide))).trans (if_pos g))
theorem ln_n {s : SS} {t : Int} (g2 : ¬ gIs T N 2 s) (g3 : ¬ gIs T N 3 s) (g4 : ¬ gIs T N 4 s) : lnS T N s t = gFt T N 2 s := (if_neg g2).trans ((if_neg g3).trans (if_neg g4))
/-- all together behind a line -/
def LY (T : Int → Int) (N : Int) (s : SS) (t t' : Int) : Prop := 0 ≤ (lnS T N s t).1 → t' = @ite _ (gIs T N 2 s) (Classical.propDecidable _) (t + tVl T N (gAd T N s).1) t
theorem LY_h {s : SS} {t z t' : Int} (g : gIs T N 2 s) (hz : 0 ≤ (gTk T N 1 (18 - t) (gAd T N s)).1 → z = tVl T N (gAd T N s).1) (e : t' = t + z) : LY T N s t t' := fun h => by
  rw [ln_h g] at h
  rw [if_pos g, e, hz h]
theorem LY_n {s : SS} {t t' : Int} (g : ¬ gIs T N 2 s) (e : t' = t) : LY T N s t t' := fun _ => by rw [if_neg g]; exact e
theorem LT_s {s s' : SS} {x : XX} {t t' : Int} (h0 : 0 ≤ s.1) (h : LT s x t) (y : LY T N s t t') (h' : 0 ≤ s'.1 → 0 ≤ (lnS T N s t).1) : LT s' (lnY T N s x) t' := fun hs => by
  have a := y (h' hs)
  have b := h h0
  rw [a]
  unfold lnY
  by_cases g2 : gIs T N 2 s
  · rw [if_pos g2, if_pos g2]; show _ = tot (x.1 ++ [tVl T N (gAd T N s).1]); rw [tot_a, b]
  · rw [if_neg g2, if_neg g2]
    by_cases g3 : gIs T N 3 s
    · rw [if_pos g3]; exact b
    · rw [if_neg g3]
      by_cases g4 : gIs T N 4 s
      · rw [if_pos g4]; exact b
      · rw [if_neg g4]; exact b
theorem gEx_a {k : Int} {s : SS} (h : 0 ≤ (gEx T N k s).1) : 0 ≤ s.1 := by
  by_cases e : s.1 < 0
  · by_cases g : gIs T N k s
    · exact g.1
    · rw [gEx_n g, gFt_n e] at h; exact h
  · omega
theorem LK_0 {s s0 : SS} {t : Int} (h : s0.1 = s.1) (h0 : rd0 T N = (s0, ([], none, none), 1)) (ht : t = 0) : LK T N s t 1 := ⟨s0, ([], none, none), h, by rw [← h0]; rfl, fun _ => ht⟩
theorem LK_s {s : SS} {t t' n : Int} (h : LK T N s t n) (hs : s.1 ≤ N) (h0 : 0 ≤ s.1) (hk : ¬ tKd T N s.1 = 24) (y : LY T N s t t') : LK T N (gEx T N 30 (lnS T N s t)) t' (n + 1) := by
  obtain ⟨s0, x, e1, e2, e3⟩ := h
  have et := e3 h0
  refine ⟨gEx T N 30 (lnS T N s0 (tot x.1)), lnY T N s x, ?_, ?_, ?_⟩
  · rw [← et]; exact gEx_m (lnS_m e1 h0 hs)
  · have q := lqL_s (T := T) (N := N) (q := (s0, x, n)) (show s0.1 ≤ N by omega) ⟨show 0 ≤ s0.1 by omega, show ¬ tKd T N s0.1 = 24 by rw [e1]; exact hk⟩
    rw [← e2, q]
    show lqL T N _ = lqL T N (gEx T N 30 (lnS T N s0 (tot x.1)), lnY T N s0 x, n + 1)
    rw [lnY_m e1 h0 hs]
  · exact LT_s h0 e3 y (fun q => gEx_a q)
theorem LK_e {s : SS} {t n : Int} (h : LK T N s t n) (hn : ¬ (0 ≤ s.1 ∧ ¬ tKd T N s.1 = 24)) : RZ T N s t n := by
  obtain ⟨s0, x, e1, e2, e3⟩ := h
  have q := lqL_n (T := T) (N := N) (q := (s0, x, n)) (show ¬ (0 ≤ s0.1 ∧ ¬ tKd T N s0.1 = 24) by rw [e1]; exact hn)
  have r : rdX T N = (s0, x, n) := e2.symm.trans q
  refine ⟨by rw [r]; exact e1, fun h0 => ?_⟩
  rw [r]
  exact ⟨rfl, e3 h0⟩
end LNb
/-- signs, as they are looked up -/
def SGN (c z : Int) : Prop := (0 ≤ z ∧ tCk (tSg c) = c) ∨ (z < 0 ∧ tSg c = 25)
theorem SGN_y {c i : Int} (hi : 0 ≤ i ∧ i < 12) (h : c = cw1 i) : SGN c i := Or.inl ⟨hi.1, NI_r hi h⟩
theorem SGN_n {c : Int} (h : NI c 12) : SGN c (-1) := Or.inr ⟨by decide, NI_e h⟩
theorem SGN_k {c z k : Int} (h : SGN c z) (h1 : 0 ≤ z → k = c) (h2 : z < 0 → k = 2) : k = tCk (tSg c) := by
  rcases h with ⟨a, b⟩ | ⟨a, b⟩
  · rw [b]; exact h1 a
  · rw [b]; exact h2 a
