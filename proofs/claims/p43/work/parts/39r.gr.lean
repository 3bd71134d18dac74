/-! the grammar over tokens: a state is a place (0 or more: where the token in sight begins) or a fault (below 0: -(8 * place + kind)), beside it the words that were emitted -/
abbrev SS := Int × List Int
section GRa
variable (T : Int → Int) (N : Int)
noncomputable def gFl (k c : Int) : Int := -(8 * c + @ite _ (tKd T N c = 25) (Classical.propDecidable _) 1 k)
noncomputable def gAd (s : SS) : SS := @ite _ (s.1 < 0) (Classical.propDecidable _) s (tNx T N s.1, s.2)
noncomputable def gFt (k : Int) (s : SS) : SS := @ite _ (s.1 < 0) (Classical.propDecidable _) s (gFl T N k s.1, [])
noncomputable def gEm (w : Int) (s : SS) : SS := @ite _ (s.1 < 0) (Classical.propDecidable _) s (s.1, s.2 ++ [w])
noncomputable def gRs (s : SS) : SS := @ite _ (s.1 < 0) (Classical.propDecidable _) s (s.1, [])
/-- whether the token in sight is of kind k -/
def gIs (k : Int) (s : SS) : Prop := 0 ≤ s.1 ∧ tKd T N s.1 = k
noncomputable def gEx (k : Int) (s : SS) : SS := @ite _ (gIs T N k s) (Classical.propDecidable _) (gAd T N s) (gFt T N 2 s)
noncomputable def gEt (k : Int) (s : SS) : SS := @ite _ (gIs T N k s) (Classical.propDecidable _) (gAd T N s) s
noncomputable def gTk (lo hi : Int) (s : SS) : SS := @ite _ (gIs T N 23 s) (Classical.propDecidable _) (@ite _ (lo ≤ tVl T N s.1 ∧ tVl T N s.1 ≤ hi) (Classical.propDecidable _) (gAd T N s) (gFt T N 3 s)) (gFt T N 2 s)
/-- goes one deeper -/
noncomputable def gEn (x : Int) (s : SS) : SS := @ite _ (x ≤ 5) (Classical.propDecidable _) (gAd T N s) (gFt T N 4 s)
noncomputable def lpF (a b : Int) (F : Int → SS → SS) : Nat → SS → SS
  | 0, s => s
  | f + 1, s => @ite _ (0 ≤ s.1 ∧ a ≤ tKd T N s.1 ∧ tKd T N s.1 ≤ b) (Classical.propDecidable _) (lpF a b F f (F (tKd T N s.1) (gAd T N s))) s
noncomputable def lp (a b : Int) (F : Int → SS → SS) (s : SS) : SS := lpF T N a b F (N + 1 - s.1).toNat s
abbrev LVT := (SS → SS) × (SS → SS) × (SS → SS)
noncomputable def chX (l : LVT) (s : SS) : SS := gEm 1019 (gEx T N 8 (l.1 (gEx T N 7 (l.1 (gEx T N 6 (l.2.1 s))))))
noncomputable def inX (L : Option LVT) (F : LVT → SS → SS) (s : SS) : SS := match L with
  | none => gFt T N 4 s
  | some l => F l (gAd T N s)
noncomputable def atX (L : Option LVT) (s : SS) : SS :=
  @ite _ (gIs T N 23 s) (Classical.propDecidable _) (gEm (tVl T N s.1) (gTk T N 0 999 s))
  (@ite _ (gIs T N 35 s) (Classical.propDecidable _) (inX T N L (fun l t => gEx T N 36 (l.1 t)) s)
  (@ite _ (gIs T N 5 s) (Classical.propDecidable _) (inX T N L (fun l t => chX T N l t) s)
  (@ite _ (gIs T N 1 s) (Classical.propDecidable _) (gAd T N (gEm 1004 s))
  (@ite _ (0 ≤ s.1 ∧ 9 ≤ tKd T N s.1 ∧ tKd T N s.1 ≤ 12) (Classical.propDecidable _) (gAd T N (gEm (991 + tKd T N s.1) s)) (gFt T N 2 s)))))
noncomputable def tmF (L : Option LVT) (_ : Int) (t : SS) : SS := gEm 1012 (atX T N L t)
noncomputable def tmL (L : Option LVT) (s : SS) : SS := lp T N 34 34 (tmF T N L) s
noncomputable def tmX (L : Option LVT) (s : SS) : SS := tmL T N L (atX T N L s)
noncomputable def smF (L : Option LVT) (k : Int) (t : SS) : SS := gEm (978 + k) (tmX T N L t)
noncomputable def smL (L : Option LVT) (s : SS) : SS := lp T N 32 33 (smF T N L) s
noncomputable def smX (L : Option LVT) (s : SS) : SS := smL T N L (tmX T N L s)
/-- behind a sum: a sign of comparison, a sum -/
noncomputable def cqX (L : Option LVT) (t : SS) : SS := @ite _ (0 ≤ t.1 ∧ 39 ≤ tKd T N t.1 ∧ tKd T N t.1 ≤ 41) (Classical.propDecidable _) (gEm (974 + tKd T N t.1) (smX T N L (gAd T N t))) (gFt T N 2 t)
noncomputable def cpX (L : Option LVT) (s : SS) : SS := cqX T N L (smX T N L s)
noncomputable def unX (L : Option LVT) (s : SS) : SS :=
  @ite _ (gIs T N 15 s) (Classical.propDecidable _) (inX T N L (fun l t => gEm 1018 (l.2.2 t)) s)
  (@ite _ (gIs T N 37 s) (Classical.propDecidable _) (inX T N L (fun l t => gEx T N 38 (l.2.1 t)) s) (cpX T N L s))
noncomputable def boF (L : Option LVT) (_ : Int) (t : SS) : SS := gEm 1016 (unX T N L t)
noncomputable def boL (L : Option LVT) (s : SS) : SS := lp T N 13 13 (boF T N L) s
noncomputable def boX (L : Option LVT) (s : SS) : SS := boL T N L (unX T N L s)
noncomputable def trF (L : Option LVT) (_ : Int) (t : SS) : SS := gEm 1017 (boX T N L t)
noncomputable def trL (L : Option LVT) (s : SS) : SS := lp T N 14 14 (trF T N L) s
noncomputable def trX (L : Option LVT) (s : SS) : SS := trL T N L (boX T N L s)
noncomputable def lv : Nat → Option LVT
  | 0 => none
  | e + 1 => some (smX T N (lv e), trX T N (lv e), unX T N (lv e))
noncomputable def lvI (x : Int) : Option LVT := lv T N (6 - x).toNat
noncomputable def lvT (x : Int) : LVT := (smX T N (lvI T N x), trX T N (lvI T N x), unX T N (lvI T N x))
theorem lvI_s {x : Int} (h : x ≤ 5) : lvI T N x = some (lvT T N (x + 1)) := by
  unfold lvT lvI
  rw [show (6 - x).toNat = (6 - (x + 1)).toNat + 1 by omega]
  rfl
theorem lvI_6 {x : Int} (h : 6 ≤ x) : lvI T N x = none := by
  unfold lvI
  rw [show (6 - x).toNat = 0 by omega]
  rfl
end GRa
section GRb
variable {T : Int → Int} {N : Int}
theorem gFl_n {k c : Int} (hk : 1 ≤ k) (hc : 0 ≤ c) : gFl T N k c < 0 := by
  unfold gFl
  split <;> omega
/-- goes on, or fails; a fault stays -/
def Go (N : Int) (F : SS → SS) : Prop := ∀ s : SS, s.1 ≤ N → (s.1 < 0 → F s = s) ∧ (0 ≤ s.1 → (F s).1 < 0 ∨ (s.1 ≤ (F s).1 ∧ (F s).1 ≤ N))
theorem Go.le {F : SS → SS} (hF : Go N F) {s : SS} (h : s.1 ≤ N) : (F s).1 ≤ N := by
  have q := hF s h
  by_cases h0 : s.1 < 0
  · rw [q.1 h0]; exact h
  · have := q.2 (by omega)
    have : 0 ≤ N := by omega
    omega
theorem Go.comp {F G : SS → SS} (hF : Go N F) (hG : Go N G) : Go N (fun s => F (G s)) := by
  intro s hs
  have a := hG s hs
  refine ⟨fun h => ?_, fun h => ?_⟩
  · show F (G s) = s
    rw [a.1 h]; exact (hF s hs).1 h
  · have b := a.2 h
    show (F (G s)).1 < 0 ∨ (s.1 ≤ (F (G s)).1 ∧ (F (G s)).1 ≤ N)
    have c := hF (G s) (hG.le hs)
    by_cases g : (G s).1 < 0
    · rw [c.1 g]; exact Or.inl g
    · have := c.2 (by omega)
      omega
theorem gAd_n {s : SS} (h : s.1 < 0) : gAd T N s = s := if_pos h
theorem gAd_p {s : SS} (h : 0 ≤ s.1) : gAd T N s = (tNx T N s.1, s.2) := if_neg (by omega)
theorem gFt_n {k : Int} {s : SS} (h : s.1 < 0) : gFt T N k s = s := if_pos h
theorem gFt_p {k : Int} {s : SS} (h : 0 ≤ s.1) : gFt T N k s = (gFl T N k s.1, []) := if_neg (by omega)
theorem gEm_n {w : Int} {s : SS} (h : s.1 < 0) : gEm w s = s := if_pos h
theorem gEm_p {w : Int} {s : SS} (h : 0 ≤ s.1) : gEm w s = (s.1, s.2 ++ [w]) := if_neg (by omega)
theorem gEm_1 {w : Int} {s : SS} : (gEm w s).1 = s.1 := by
  by_cases h : s.1 < 0
  · rw [gEm_n h]
  · rw [gEm_p (by omega)]
theorem gIs_n {k : Int} {s : SS} (h : s.1 < 0) : ¬ gIs T N k s := fun q => by have := q.1; omega
theorem gAd_go : Go N (gAd T N) := by
  intro s hs
  refine ⟨fun h => gAd_n h, fun h => ?_⟩
  rw [gAd_p h]
  have b := tNx_b (T := T) (N := N) s.1
  exact Or.inr ⟨b.1, b.2.1 hs⟩
theorem gFt_go {k : Int} (hk : 1 ≤ k) : Go N (gFt T N k) := by
  intro s hs
  refine ⟨fun h => gFt_n h, fun h => ?_⟩
  rw [gFt_p h]
  exact Or.inl (gFl_n hk h)
theorem gEm_go {w : Int} : Go N (gEm w) := by
  intro s hs
  refine ⟨fun h => gEm_n h, fun h => ?_⟩
  rw [gEm_1]
  exact Or.inr ⟨Int.le_refl _, hs⟩
theorem ite_go {P : SS → Prop} {F G : SS → SS} (hF : Go N F) (hG : Go N G) : Go N (fun s => @ite _ (P s) (Classical.propDecidable _) (F s) (G s)) := by
  intro s hs
  show (s.1 < 0 → @ite _ (P s) (Classical.propDecidable _) (F s) (G s) = s) ∧ (0 ≤ s.1 → (@ite _ (P s) (Classical.propDecidable _) (F s) (G s)).1 < 0 ∨ (s.1 ≤ (@ite _ (P s) (Classical.propDecidable _) (F s) (G s)).1 ∧ (@ite _ (P s) (Classical.propDecidable _) (F s) (G s)).1 ≤ N))
  by_cases h : P s
  · rw [if_pos h]; exact hF s hs
  · rw [if_neg h]; exact hG s hs
theorem id_go : Go N (fun s => s) := fun s hs => ⟨fun _ => rfl, fun _ => Or.inr ⟨Int.le_refl _, hs⟩⟩
theorem gEx_go {k : Int} : Go N (gEx T N k) := ite_go gAd_go (gFt_go (by decide))
theorem gEt_go {k : Int} : Go N (gEt T N k) := ite_go gAd_go id_go
theorem gTk_go {lo hi : Int} : Go N (gTk T N lo hi) := ite_go (ite_go gAd_go (gFt_go (by decide))) (gFt_go (by decide))
theorem lpF_s {a b : Int} {F : Int → SS → SS} {f : Nat} {s : SS} (h : 0 ≤ s.1 ∧ a ≤ tKd T N s.1 ∧ tKd T N s.1 ≤ b) : lpF T N a b F (f + 1) s = lpF T N a b F f (F (tKd T N s.1) (gAd T N s)) := if_pos h
theorem lpF_n {a b : Int} {F : Int → SS → SS} {s : SS} (h : ¬ (0 ≤ s.1 ∧ a ≤ tKd T N s.1 ∧ tKd T N s.1 ≤ b)) : ∀ f, lpF T N a b F f s = s
  | 0 => rfl
  | f + 1 => if_neg h
/-- a turn goes on by a token, or fails -/
theorem turn_b {F : SS → SS} (hF : Go N F) {s : SS} (hs : s.1 ≤ N) (h0 : 0 ≤ s.1) (hk : ¬ tKd T N s.1 = 24) : (F (gAd T N s)).1 < 0 ∨ (s.1 + 1 ≤ (F (gAd T N s)).1 ∧ (F (gAd T N s)).1 ≤ N) := by
  have b := tNx_b (T := T) (N := N) s.1
  have b3 := b.2.2.1 hk
  have b2 := b.2.1 hs
  rw [gAd_p h0]
  have q := (hF (tNx T N s.1, s.2) b2).2 (show 0 ≤ tNx T N s.1 by omega)
  rcases q with q | q
  · exact Or.inl q
  · exact Or.inr ⟨by have := q.1; omega, q.2⟩
/-- more turns than are left don't matter -/
theorem lpF_f {a b : Int} {F : Int → SS → SS} (hF : ∀ k, Go N (F k)) (h24 : ¬ (a ≤ 24 ∧ 24 ≤ b)) : ∀ (f g : Nat) (s : SS), s.1 ≤ N → (0 ≤ s.1 → (N + 1 - s.1).toNat ≤ f) → (0 ≤ s.1 → (N + 1 - s.1).toNat ≤ g) → lpF T N a b F f s = lpF T N a b F g s
  | 0, g, s, h1, h2, h3 => by
    have hn : ¬ (0 ≤ s.1 ∧ a ≤ tKd T N s.1 ∧ tKd T N s.1 ≤ b) := fun q => by have := h2 q.1; omega
    rw [lpF_n hn, lpF_n hn]
  | f + 1, 0, s, h1, h2, h3 => by
    have hn : ¬ (0 ≤ s.1 ∧ a ≤ tKd T N s.1 ∧ tKd T N s.1 ≤ b) := fun q => by have := h3 q.1; omega
    rw [lpF_n hn, lpF_n hn]
  | f + 1, g + 1, s, h1, h2, h3 => by
    by_cases hk : 0 ≤ s.1 ∧ a ≤ tKd T N s.1 ∧ tKd T N s.1 ≤ b
    · rw [lpF_s hk, lpF_s hk]
      have t := turn_b (T := T) (hF (tKd T N s.1)) h1 hk.1 (by omega)
      have l := (hF (tKd T N s.1)).le ((gAd_go (T := T)).le h1)
      have p2 := h2 hk.1
      have p3 := h3 hk.1
      exact lpF_f hF h24 f g _ l (fun _ => by omega) (fun _ => by omega)
    · rw [lpF_n hk, lpF_n hk]
theorem lp_n {a b : Int} {F : Int → SS → SS} {s : SS} (h : ¬ (0 ≤ s.1 ∧ a ≤ tKd T N s.1 ∧ tKd T N s.1 ≤ b)) : lp T N a b F s = s := lpF_n h _
theorem lp_s {a b : Int} {F : Int → SS → SS} (hF : ∀ k, Go N (F k)) (h24 : ¬ (a ≤ 24 ∧ 24 ≤ b)) {s : SS} (hs : s.1 ≤ N) (h : 0 ≤ s.1 ∧ a ≤ tKd T N s.1 ∧ tKd T N s.1 ≤ b) : lp T N a b F s = lp T N a b F (F (tKd T N s.1) (gAd T N s)) := by
  have t := turn_b (T := T) (hF (tKd T N s.1)) hs h.1 (by omega)
  have l := (hF (tKd T N s.1)).le ((gAd_go (T := T)).le hs)
  have e : lp T N a b F s = lpF T N a b F (N - s.1).toNat (F (tKd T N s.1) (gAd T N s)) := by
    unfold lp
    rw [show (N + 1 - s.1).toNat = (N - s.1).toNat + 1 by omega]
    exact lpF_s h
  rw [e]
  exact lpF_f hF h24 _ _ _ l (fun _ => by omega) (fun _ => by omega)
theorem lp_go {a b : Int} {F : Int → SS → SS} (hF : ∀ k, Go N (F k)) (h24 : ¬ (a ≤ 24 ∧ 24 ≤ b)) : Go N (lp T N a b F) := by
  have key : ∀ (n : Nat) (s : SS), (0 ≤ s.1 → (N + 1 - s.1).toNat ≤ n) → s.1 ≤ N → 0 ≤ s.1 → (lp T N a b F s).1 < 0 ∨ (s.1 ≤ (lp T N a b F s).1 ∧ (lp T N a b F s).1 ≤ N) := by
    intro n
    induction n with
    | zero => intro s h1 h2 h3; exact absurd (h1 h3) (by omega)
    | succ n ih =>
      intro s h1 h2 h3
      by_cases hk : 0 ≤ s.1 ∧ a ≤ tKd T N s.1 ∧ tKd T N s.1 ≤ b
      · rw [lp_s hF h24 h2 hk]
        have t := turn_b (T := T) (hF (tKd T N s.1)) h2 h3 (by omega)
        by_cases hn : (F (tKd T N s.1) (gAd T N s)).1 < 0
        · rw [lp_n (fun q => by have := q.1; omega)]; exact Or.inl hn
        · have p := h1 h3
          have r2 := ih (F (tKd T N s.1) (gAd T N s)) (fun _ => by omega) (by omega) (by omega)
          omega
      · rw [lp_n hk]; exact Or.inr ⟨Int.le_refl _, h2⟩
  exact fun s hs => ⟨fun h => lp_n (fun q => by have := q.1; omega), fun h => key _ s (fun _ => Nat.le_refl _) hs h⟩
def GoL (N : Int) (L : Option LVT) : Prop := ∀ l, L = some l → Go N l.1 ∧ Go N l.2.1 ∧ Go N l.2.2
theorem inX_go {L : Option LVT} {F : LVT → SS → SS} (hL : GoL N L) (hF : ∀ l, Go N l.1 → Go N l.2.1 → Go N l.2.2 → Go N (F l)) : Go N (inX T N L F) := by
  cases L with
  | none => exact gFt_go (by decide)
  | some l =>
    obtain ⟨a, b, c⟩ := hL l rfl
    exact (hF l a b c).comp gAd_go
theorem chX_go {l : LVT} (h1 : Go N l.1) (h2 : Go N l.2.1) : Go N (chX T N l) := gEm_go.comp (gEx_go.comp (h1.comp (gEx_go.comp (h1.comp (gEx_go.comp h2)))))
theorem atX_go {L : Option LVT} (hL : GoL N L) : Go N (atX T N L) := by
  intro s hs
  by_cases h0 : s.1 < 0
  · have e : atX T N L s = s := (if_neg (gIs_n h0)).trans ((if_neg (gIs_n h0)).trans ((if_neg (gIs_n h0)).trans ((if_neg (gIs_n h0)).trans ((if_neg (fun q => by have := q.1; omega)).trans (gFt_n h0)))))
    exact ⟨fun _ => e, fun h => absurd h (by omega)⟩
  · refine ⟨fun h => absurd h h0, fun h => ?_⟩
    have key : ∀ F : SS → SS, Go N F → ((F s).1 < 0 ∨ (s.1 ≤ (F s).1 ∧ (F s).1 ≤ N)) := fun F hF => (hF s hs).2 h
    unfold atX
    split
    · exact key (fun t => gEm (tVl T N s.1) (gTk T N 0 999 t)) (gEm_go.comp gTk_go)
    · split
      · exact key _ (inX_go hL (fun l a _ _ => gEx_go.comp a))
      · split
        · exact key _ (inX_go hL (fun l a b _ => chX_go a b))
        · split
          · exact key (fun t => gAd T N (gEm 1004 t)) (gAd_go.comp gEm_go)
          · split
            · exact key (fun t => gAd T N (gEm (991 + tKd T N s.1) t)) (gAd_go.comp gEm_go)
            · exact key _ (gFt_go (by decide))
theorem tmF_go {L : Option LVT} (hL : GoL N L) (k : Int) : Go N (tmF T N L k) := gEm_go.comp (atX_go hL)
theorem tmX_go {L : Option LVT} (hL : GoL N L) : Go N (tmX T N L) := (lp_go (tmF_go hL) (by omega)).comp (atX_go hL)
theorem smF_go {L : Option LVT} (hL : GoL N L) (k : Int) : Go N (smF T N L k) := gEm_go.comp (tmX_go hL)
theorem smX_go {L : Option LVT} (hL : GoL N L) : Go N (smX T N L) := (lp_go (smF_go hL) (by omega)).comp (tmX_go hL)
theorem cqX_go {L : Option LVT} (hL : GoL N L) : Go N (cqX T N L) := by
  intro s hs
  unfold cqX
  by_cases h : 0 ≤ s.1 ∧ 39 ≤ tKd T N s.1 ∧ tKd T N s.1 ≤ 41
  · rw [if_pos h]; exact (gEm_go.comp ((smX_go hL).comp gAd_go)) s hs
  · rw [if_neg h]; exact gFt_go (by decide) s hs
theorem cpX_go {L : Option LVT} (hL : GoL N L) : Go N (cpX T N L) := (cqX_go hL).comp (smX_go hL)
theorem unX_go {L : Option LVT} (hL : GoL N L) : Go N (unX T N L) := ite_go (inX_go hL (fun l _ _ c => gEm_go.comp c)) (ite_go (inX_go hL (fun l _ b _ => gEx_go.comp b)) (cpX_go hL))
theorem boF_go {L : Option LVT} (hL : GoL N L) (k : Int) : Go N (boF T N L k) := gEm_go.comp (unX_go hL)
theorem boX_go {L : Option LVT} (hL : GoL N L) : Go N (boX T N L) := (lp_go (boF_go hL) (by omega)).comp (unX_go hL)
theorem trF_go {L : Option LVT} (hL : GoL N L) (k : Int) : Go N (trF T N L k) := gEm_go.comp (boX_go hL)
theorem trX_go {L : Option LVT} (hL : GoL N L) : Go N (trX T N L) := (lp_go (trF_go hL) (by omega)).comp (boX_go hL)
theorem lv_go : ∀ e, GoL N (lv T N e)
  | 0 => fun l h => by cases h
  | e + 1 => fun l h => by
    cases h
    exact ⟨smX_go (lv_go e), trX_go (lv_go e), unX_go (lv_go e)⟩
theorem lvI_go (x : Int) : GoL N (lvI T N x) := lv_go _
/-- the loops' turns and ends -/
theorem tmL_s {L : Option LVT} (hL : GoL N L) {s : SS} (hs : s.1 ≤ N) (h : gIs T N 34 s) : tmL T N L s = tmL T N L (gEm 1012 (atX T N L (gAd T N s))) := lp_s (tmF_go hL) (by omega) hs ⟨h.1, by have := h.2; omega, by have := h.2; omega⟩
theorem tmL_n {L : Option LVT} {s : SS} (h : ¬ gIs T N 34 s) : tmL T N L s = s := lp_n (fun q => h ⟨q.1, by have := q.2; omega⟩)
theorem smL_s {L : Option LVT} (hL : GoL N L) {s : SS} {w : Int} (hs : s.1 ≤ N) (h0 : 0 ≤ s.1) (h : tKd T N s.1 = 32 ∨ tKd T N s.1 = 33) (hw : w = 978 + tKd T N s.1) : smL T N L s = smL T N L (gEm w (tmX T N L (gAd T N s))) := by
  subst hw
  exact lp_s (smF_go hL) (by omega) hs ⟨h0, by omega, by omega⟩
theorem smL_n {L : Option LVT} {s : SS} (h : ¬ gIs T N 32 s) (h2 : ¬ gIs T N 33 s) : smL T N L s = s := lp_n (fun q => by
  by_cases e : tKd T N s.1 = 32
  · exact h ⟨q.1, e⟩
  · exact h2 ⟨q.1, by have := q.2; omega⟩)
theorem boL_s {L : Option LVT} (hL : GoL N L) {s : SS} (hs : s.1 ≤ N) (h : gIs T N 13 s) : boL T N L s = boL T N L (gEm 1016 (unX T N L (gAd T N s))) := lp_s (boF_go hL) (by omega) hs ⟨h.1, by have := h.2; omega, by have := h.2; omega⟩
theorem boL_n {L : Option LVT} {s : SS} (h : ¬ gIs T N 13 s) : boL T N L s = s := lp_n (fun q => h ⟨q.1, by have := q.2; omega⟩)
theorem trL_s {L : Option LVT} (hL : GoL N L) {s : SS} (hs : s.1 ≤ N) (h : gIs T N 14 s) : trL T N L s = trL T N L (gEm 1017 (boX T N L (gAd T N s))) := lp_s (trF_go hL) (by omega) hs ⟨h.1, by have := h.2; omega, by have := h.2; omega⟩
theorem trL_n {L : Option LVT} {s : SS} (h : ¬ gIs T N 14 s) : trL T N L s = s := lp_n (fun q => h ⟨q.1, by have := q.2; omega⟩)
theorem gEx_y {k : Int} {s : SS} (h : gIs T N k s) : gEx T N k s = gAd T N s := if_pos h
theorem gEx_n {k : Int} {s : SS} (h : ¬ gIs T N k s) : gEx T N k s = gFt T N 2 s := if_neg h
theorem gEt_y {k : Int} {s : SS} (h : gIs T N k s) : gEt T N k s = gAd T N s := if_pos h
theorem gEt_n {k : Int} {s : SS} (h : ¬ gIs T N k s) : gEt T N k s = s := if_neg h
theorem gEn_y {x : Int} {s : SS} (h : x ≤ 5) : gEn T N x s = gAd T N s := if_pos h
theorem gEn_n {x : Int} {s : SS} (h : ¬ x ≤ 5) : gEn T N x s = gFt T N 4 s := if_neg h
theorem gTk_2 {lo hi : Int} {s : SS} (h : ¬ gIs T N 23 s) : gTk T N lo hi s = gFt T N 2 s := if_neg h
theorem gTk_3 {lo hi : Int} {s : SS} (h : gIs T N 23 s) (h2 : ¬ (lo ≤ tVl T N s.1 ∧ tVl T N s.1 ≤ hi)) : gTk T N lo hi s = gFt T N 3 s := (if_pos h).trans (if_neg h2)
theorem gTk_y {lo hi : Int} {s : SS} (h : gIs T N 23 s) (h2 : lo ≤ tVl T N s.1 ∧ tVl T N s.1 ≤ hi) : gTk T N lo hi s = gAd T N s := (if_pos h).trans (if_pos h2)
theorem gFt_1 {k : Int} {s : SS} (hk : 1 ≤ k) : (gFt T N k s).1 < 0 := by
  by_cases h : s.1 < 0
  · rw [gFt_n h]; exact h
  · rw [gFt_p (by omega)]; exact gFl_n hk (by omega)
theorem gIs_u {k j : Int} {s : SS} (h : gIs T N k s) (hn : ¬ k = j) : ¬ gIs T N j s := fun q => hn (h.2.symm.trans q.2)
/-- atoms -/
theorem at_d {L : Option LVT} {s : SS} (h : gIs T N 23 s) : atX T N L s = gEm (tVl T N s.1) (gTk T N 0 999 s) := if_pos h
theorem at_o {L : Option LVT} {s : SS} (h : gIs T N 35 s) : atX T N L s = inX T N L (fun l t => gEx T N 36 (l.1 t)) s := (if_neg (gIs_u h (by decide))).trans (if_pos h)
theorem at_i {L : Option LVT} {s : SS} (h : gIs T N 5 s) : atX T N L s = inX T N L (fun l t => chX T N l t) s := (if_neg (gIs_u h (by decide))).trans ((if_neg (gIs_u h (by decide))).trans (if_pos h))
theorem at_1 {L : Option LVT} {s : SS} (h : gIs T N 1 s) : atX T N L s = gAd T N (gEm 1004 s) := (if_neg (gIs_u h (by decide))).trans ((if_neg (gIs_u h (by decide))).trans ((if_neg (gIs_u h (by decide))).trans (if_pos h)))
theorem at_w {L : Option LVT} {s : SS} {w : Int} (h0 : 0 ≤ s.1) (h : 9 ≤ tKd T N s.1 ∧ tKd T N s.1 ≤ 12) (hw : w = 991 + tKd T N s.1) : atX T N L s = gAd T N (gEm w s) := by
  subst hw
  exact (if_neg (fun q : gIs T N 23 s => by have := q.2; omega)).trans ((if_neg (fun q : gIs T N 35 s => by have := q.2; omega)).trans ((if_neg (fun q : gIs T N 5 s => by have := q.2; omega)).trans ((if_neg (fun q : gIs T N 1 s => by have := q.2; omega)).trans (if_pos ⟨h0, h.1, h.2⟩))))
theorem at_n {L : Option LVT} {s : SS} (h1 : ¬ gIs T N 23 s) (h2 : ¬ gIs T N 35 s) (h3 : ¬ gIs T N 5 s) (h4 : ¬ gIs T N 1 s) (h5 : ¬ (0 ≤ s.1 ∧ 9 ≤ tKd T N s.1 ∧ tKd T N s.1 ≤ 12)) : atX T N L s = gFt T N 2 s := (if_neg h1).trans ((if_neg h2).trans ((if_neg h3).trans ((if_neg h4).trans (if_neg h5))))
theorem in_y {x : Int} {F : LVT → SS → SS} {s : SS} (h : x ≤ 5) : inX T N (lvI T N x) F s = F (lvT T N (x + 1)) (gAd T N s) := by rw [lvI_s T N h]; rfl
theorem in_n {x : Int} {F : LVT → SS → SS} {s : SS} (h : ¬ x ≤ 5) : inX T N (lvI T N x) F s = gFt T N 4 s := by rw [lvI_6 T N (by omega)]; rfl
theorem un_t {L : Option LVT} {s : SS} (h : gIs T N 15 s) : unX T N L s = inX T N L (fun l t => gEm 1018 (l.2.2 t)) s := if_pos h
theorem un_b {L : Option LVT} {s : SS} (h : gIs T N 37 s) : unX T N L s = inX T N L (fun l t => gEx T N 38 (l.2.1 t)) s := (if_neg (gIs_u h (by decide))).trans (if_pos h)
theorem un_c {L : Option LVT} {s : SS} (h1 : ¬ gIs T N 15 s) (h2 : ¬ gIs T N 37 s) : unX T N L s = cpX T N L s := (if_neg h1).trans (if_neg h2)
theorem cq_y {L : Option LVT} {s : SS} {w : Int} (h0 : 0 ≤ s.1) (h : 39 ≤ tKd T N s.1 ∧ tKd T N s.1 ≤ 41) (hw : w = 974 + tKd T N s.1) : cqX T N L s = gEm w (smX T N L (gAd T N s)) := by
  subst hw
  exact if_pos ⟨h0, h.1, h.2⟩
theorem cq_n {L : Option LVT} {s : SS} (h : ¬ (0 ≤ s.1 ∧ 39 ≤ tKd T N s.1 ∧ tKd T N s.1 ≤ 41)) : cqX T N L s = gFt T N 2 s := if_neg h
end GRb
