/-! a run over cells of which some are not known is one over any cells there; numbers likewise -/
section MXV
variable {l : Launch} {D : va_G} {b0 : Nat} {ad : Nat → Nat} {Hb : Heap} {tau : Nat → Int64} {d mi : Nat} {as as2 : List Value} {h hj : mx_H} {r rj : mx_R}
theorem mx_conv (hev : ∀ Hb2 tau2, mx_Ca (tB l D b0 ad Hb2 tau2) d mi as2 hj rj) (n1 : hj.1 = h.1) (n2 : hj.2.1 = h.2.1) (n3 : rj.2.1 = r.2.1) (n4 : rj.2.2.1 = r.2.2.1)
    (hc : ∀ U : State, mx_Rp (tB l D b0 ad Hb tau).2.1.1 U h U.heap → mx_KK (tB l D b0 ad Hb tau).2.1 U → ∃ (Hb2 : Heap) (tau2 : Nat → Int64), as.map (mx_v (tB l D b0 ad Hb tau).2.1.1) = as2.map (mx_v (tB l D b0 ad Hb2 tau2).2.1.1) ∧ mx_Rp (tB l D b0 ad Hb2 tau2).2.1.1 U hj U.heap ∧ mx_KK (tB l D b0 ad Hb2 tau2).2.1 U ∧ rj.1.map (mx_v (tB l D b0 ad Hb2 tau2).2.1.1) = r.1.map (mx_v (tB l D b0 ad Hb tau).2.1.1) ∧
      ∀ t : State, U.vm.Alike t.vm → mx_Rp (tB l D b0 ad Hb2 tau2).2.1.1 t rj.2 t.heap → mx_Rp (tB l D b0 ad Hb tau).2.1.1 t r.2 t.heap) : mx_Ca (tB l D b0 ad Hb tau) d mi as h r := by
  obtain ⟨d', hd, hle, -⟩ := hev Hb tau
  refine ⟨d', hd, ⟨by rw [← n1, ← n3]; exact hle.1, by rw [← n2, ← n4]; exact hle.2⟩, fun hmi => ?_⟩
  intro p e ha hcs hck s m args below hf happ hP hT
  obtain ⟨hargs, hR, hK⟩ := hP
  obtain ⟨Hb2, tau2, e1, e2, e3, e4, e5⟩ := hc s hR hK
  obtain ⟨d2, hd2, -, hM⟩ := hev Hb2 tau2
  have hM := hM hmi
  have hdd : d2 = d' := by omega
  subst hdd
  rw [n1, n2, n3, n4] at hM
  obtain ⟨k, o, g1, g2, g3, ⟨⟨q1, q2⟩, L, hF, hL⟩⟩ := hM p e ha hcs hck s m args below hf happ ⟨by rw [hargs, e1], e2, e3⟩ hT
  refine ⟨k, o, g1, g2, g3, ⟨by rw [q1, e4], e5 _ ?_ q2⟩, L, hF, hL⟩
  exact hF.2.1.alike
/-- a cell of which nothing is known -/
noncomputable def mx_jk : mx_C := .inr (.float, 0, mx_rep .null 13)
/-- cells of a where f says so, of b elsewhere; as many as b -/
noncomputable def mx_mixT (f : Nat → Bool) (a b : mx_T mx_C 12) (n : Nat) : mx_T mx_C 12 := Nat.rec (motive := fun _ => mx_T mx_C 12) b (fun k t => bif f k then mx_set 12 t k (mx_get 12 a k) else t) n
noncomputable def mx_mix (f : Nat → Bool) (a b : mx_H) : mx_H := (b.1, b.2.1, mx_mixT f a.2.2 b.2.2 4096)
theorem mx_mixT_at (f : Nat → Bool) (a b : mx_T mx_C 12) : ∀ (n k : Nat), n ≤ 4096 → k < 4096 → mx_get 12 (mx_mixT f a b n) k = if k < n ∧ f k = true then mx_get 12 a k else mx_get 12 b k
  | 0, k, _, _ => by rw [if_neg (by omega)]; rfl
  | n + 1, k, hn, hk => by
    have ih := mx_mixT_at f a b n k (by omega) hk
    show mx_get 12 (bif f n then mx_set 12 (mx_mixT f a b n) n (mx_get 12 a n) else mx_mixT f a b n) k = _
    cases hf : f n with
    | false =>
      rw [cond_false, ih]
      by_cases h1 : k < n ∧ f k = true
      · rw [if_pos h1, if_pos ⟨by omega, h1.2⟩]
      · rw [if_neg h1, if_neg]
        rintro ⟨q1, q2⟩
        by_cases hkn : k = n
        · rw [hkn, hf] at q2; cases q2
        · exact h1 ⟨by omega, q2⟩
    | true =>
      rw [cond_true, mx_get_set _ 12 _ n k (by show n < 4096; omega) (by show k < 4096; omega), ih]
      by_cases hkn : k = n
      · rw [if_pos hkn, if_pos ⟨by omega, by rw [hkn]; exact hf⟩, hkn]
      · rw [if_neg hkn]
        by_cases h1 : k < n ∧ f k = true
        · rw [if_pos h1, if_pos ⟨by omega, h1.2⟩]
        · rw [if_neg h1, if_neg]
          rintro ⟨q1, q2⟩
          exact h1 ⟨by omega, q2⟩
theorem mx_mix_at (f : Nat → Bool) (a b : mx_H) {k : Nat} (hk : k < 4096) : mx_get 12 (mx_mix f a b).2.2 k = if f k = true then mx_get 12 a.2.2 k else mx_get 12 b.2.2 k := by
  show mx_get 12 (mx_mixT f a.2.2 b.2.2 4096) k = _
  rw [mx_mixT_at f a.2.2 b.2.2 4096 k (Nat.le_refl _) hk]
  by_cases h : f k = true
  · rw [if_pos ⟨hk, h⟩, if_pos h]
  · rw [if_neg (fun q => h q.2), if_neg h]
/-- a heap with the cells that f names not known -/
noncomputable def mx_hide (f : Nat → Bool) (h : mx_H) : mx_H := mx_mix f (0, 0, mx_rep mx_jk 12) h
theorem mx_KK.at {U : State} (hK : mx_KK (tB l D b0 ad Hb tau).2.1 U) (hR : ∀ q, q < b0 → U.heap[q]? = Hb[q]?) : mx_KK (tB l D b0 ad U.heap tau).2.1 U := by
  obtain ⟨k1, k2, k3, k5, k4⟩ := hK
  refine ⟨k1, k2, k3, k5, fun z hz => ?_⟩
  exact va_Z.kept (k4 z hz) (fun a ha hA => hR a (Nat.not_le.mp hA))
noncomputable def mx_nj : mx_C → Bool
  | .inl _ => true
  | .inr q => match q.1 with
    | .float => false
    | _ => true
theorem mx_nj_ne {ty : FieldType} {n : Nat} {t : mx_A} (h : mx_nj (.inr (ty, n, t)) = true) : ¬ ty = .float := by
  intro e
  subst e
  cases h
theorem mx_v_Hb (Hb2 : Heap) : mx_v (tB l D b0 ad Hb2 tau).2.1.1 = mx_v (tB l D b0 ad Hb tau).2.1.1 := rfl
theorem mx_rho_Hb (Hb2 : Heap) (tau2 : Nat → Int64) (k : Nat) : mx_rho (tB l D b0 ad Hb2 tau2).2.1.1 k = mx_rho (tB l D b0 ad Hb tau).2.1.1 k := rfl
theorem mx_ok_Hb {Hb2 : Heap} {U : State} {H : Heap} {a : Nat} {c : mx_C} (hn : mx_nj c = true) (h : mx_ok (tB l D b0 ad Hb tau).2.1.1 U H a c) : mx_ok (tB l D b0 ad Hb2 tau).2.1.1 U H a c := by
  cases c with
  | inl o => exact h
  | inr o =>
    obtain ⟨ty, n, t⟩ := o
    rcases h with ⟨hf, -⟩ | ⟨hf, h2⟩
    · exact absurd hf (mx_nj_ne hn)
    · exact Or.inr ⟨hf, h2⟩
/-- what the hidden cells are, they stay -/
theorem mx_hid (f : Nat → Bool) (hev : ∀ Hb2, mx_Ca (tB l D b0 ad Hb2 tau) d mi as (mx_hide f h) rj) (hf : ∀ k, f k = true → 1 ≤ k ∧ k < h.1) (hj : ∀ k, f k = true → mx_get 12 rj.2.2.2 k = mx_jk) (hn1 : ∀ k, k < h.1 → mx_nj (mx_get 12 h.2.2 k) = true) (hn2 : ∀ k, k < rj.2.1 → ¬ f k = true → mx_nj (mx_get 12 rj.2.2.2 k) = true) : mx_Ca (tB l D b0 ad Hb tau) d mi as h (rj.1, mx_mix f h rj.2) := by
  obtain ⟨d', hd, hle, hM⟩ := hev Hb
  refine ⟨d', hd, hle, fun hmi => ?_⟩
  intro p e ha hcs hck s m args below hfr happ hP hT
  obtain ⟨hargs, hR, hK⟩ := hP
  obtain ⟨d2, hd2, -, hM2⟩ := hev s.heap
  have hM2 := hM2 hmi
  have hdd : d2 = d' := by omega
  subst hdd
  obtain ⟨r1, r2, r3, r4, r5, r6⟩ := hR
  have hk3 : h.1 ≤ 4096 := r2
  have hR2 : mx_Rp (tB l D b0 ad s.heap tau).2.1.1 s (mx_hide f h) s.heap := by
    refine ⟨r1, r2, r3, fun q hq => rfl, r5, fun k hk => ?_⟩
    have hk2 : k < h.1 := hk
    show mx_ok _ s s.heap _ (mx_get 12 (mx_mix f _ h).2.2 k)
    rw [mx_mix_at f _ h (by omega)]
    by_cases hfk : f k = true
    · rw [if_pos hfk]
      show mx_ok _ s s.heap _ (mx_get 12 (mx_rep mx_jk 12) k)
      rw [mx_get_rep]
      exact Or.inl ⟨rfl, rfl⟩
    · rw [if_neg hfk]
      exact mx_ok_Hb (hn1 k hk2) (r6 k hk2)
  obtain ⟨k, o, g1, g2, g3, ⟨⟨q1, q2⟩, L, hF, hL⟩⟩ := hM2 p e ha hcs hck s m args below hfr happ ⟨hargs, hR2, mx_KK.at hK r4⟩ hT
  refine ⟨k, o, g1, g2, g3, ⟨q1, ?_⟩, L, hF, hL⟩
  have hal := hF.2.1.alike
  generalize stepsAlone p.tables e k s = t at q2 hal ⊢
  obtain ⟨t1, t2, t3, t4, t5, t6⟩ := q2
  refine ⟨t1, t2, t3, fun q hq => (t4 q hq).trans (r4 q hq), t5, fun k hk => ?_⟩
  have hk2 : k < rj.2.1 := hk
  have hk4 : rj.2.1 ≤ 4096 := t2
  show mx_ok _ t t.heap _ (mx_get 12 (mx_mix f h rj.2).2.2 k)
  rw [mx_mix_at f h rj.2 (by omega)]
  by_cases hfk : f k = true
  · rw [if_pos hfk]
    obtain ⟨f1, f2⟩ := hf k hfk
    have hjk := t6 k hk2
    rw [hj k hfk] at hjk
    have hsame : t.heap[mx_rho (tB l D b0 ad Hb tau).2.1.1 k]? = s.heap[mx_rho (tB l D b0 ad Hb tau).2.1.1 k]? := by
      rcases hjk with ⟨-, h9⟩ | ⟨h9, -⟩
      · exact h9
      · exact absurd rfl h9
    exact ((r6 k f2).moved hal).kept hsame
  · rw [if_neg hfk]
    exact mx_ok_Hb (hn2 k hk2 hfk) (t6 k hk2)
end MXV
