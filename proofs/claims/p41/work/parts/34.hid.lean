/-! two halves of a heap: a run that needs one of them alone -/
section MXU
variable {l : Launch} {D : va_G} {b0 : Nat} {ad : Nat → Nat} {Hb : Heap} {tau : Nat → Int64} {d mi : Nat} {as : List Value} {h hj : mx_H} {rj : mx_R}
def mx_eqv (a b : mx_C) : Prop := a = b ∨ ∃ t t2 : mx_A, a = .inr (.int, 0, t) ∧ b = .inr (.int, 0, t2)
theorem mx_eqv_ok {E : mx_E} {U : State} {H : Heap} {p : Nat} {a b : mx_C} (h : mx_eqv a b) (hb : mx_ok E U H p b) : mx_ok E U H p a := by
  rcases h with h | ⟨t, t2, ha, hb2⟩
  · rw [h]; exact hb
  · rw [hb2] at hb
    rw [ha]
    rcases hb with ⟨z, -⟩ | ⟨z, c, q1, q2, q3, q4, q5, q6, q7⟩
    · cases z
    · exact Or.inr ⟨z, c, q1, q2, q3, q4, q5, (fun j hj => absurd hj (Nat.not_lt_zero j)), q7⟩
theorem mx_nj_fl {E : mx_E} {U : State} {H : Heap} {p : Nat} {c : mx_C} (hn : mx_nj c = false) : mx_ok E U H p c ↔ H[p]? = E.2.2.2.2.2.1[p]? := by
  cases c with
  | inl o => cases hn
  | inr o =>
    obtain ⟨ty, n, t⟩ := o
    have hty : ty = .float := by
      cases ty <;> first | rfl | cases hn
    constructor
    · rintro (h1 | h1)
      · exact h1.2
      · exact absurd hty h1.1
    · intro h1
      exact Or.inl ⟨hty, h1⟩
theorem mx_hid2 (f : Nat → Bool) (hev : ∀ Hb2, mx_Ca (tB l D b0 ad Hb2 tau) d mi as hj rj) (n1 : hj.1 = h.1) (n2 : hj.2.1 = h.2.1) (hf : ∀ k, f k = true → 1 ≤ k ∧ k < h.1) (hj1 : ∀ k, f k = true → mx_nj (mx_get 12 hj.2.2 k) = false) (hj2 : ∀ k, k < h.1 → ¬ f k = true → mx_eqv (mx_get 12 hj.2.2 k) (mx_get 12 h.2.2 k) ∧ mx_nj (mx_get 12 h.2.2 k) = true)
    (hr1 : ∀ k, f k = true → mx_nj (mx_get 12 rj.2.2.2 k) = false) (hr2 : ∀ k, k < rj.2.1 → ¬ f k = true → mx_nj (mx_get 12 rj.2.2.2 k) = true) : mx_Ca (tB l D b0 ad Hb tau) d mi as h (rj.1, mx_mix f h rj.2) := by
  obtain ⟨d', hd, hle, -⟩ := hev Hb
  refine ⟨d', hd, ⟨by rw [← n1]; exact hle.1, by rw [← n2]; exact hle.2⟩, fun hmi => ?_⟩
  intro p e ha hcs hck s m args below hfr happ hP hT
  obtain ⟨hargs, hR, hK⟩ := hP
  obtain ⟨d2, hd2, -, hM2⟩ := hev s.heap
  have hM2 := hM2 hmi
  have hdd : d2 = d' := by omega
  subst hdd
  rw [n1, n2] at hM2
  obtain ⟨r1, r2, r3, r4, r5, r6⟩ := hR
  have hk3 : h.1 ≤ 4096 := r2
  have hR2 : mx_Rp (tB l D b0 ad s.heap tau).2.1.1 s hj s.heap := by
    refine ⟨by rw [n1]; exact r1, by rw [n1]; exact r2, by rw [n1]; exact r3, fun q hq => rfl, r5, fun k hk => ?_⟩
    have hk2 : k < h.1 := by rw [← n1]; exact hk
    by_cases hfk : f k = true
    · exact (mx_nj_fl (hj1 k hfk)).mpr rfl
    · exact mx_eqv_ok (hj2 k hk2 hfk).1 (mx_ok_Hb (hj2 k hk2 hfk).2 (r6 k hk2))
  obtain ⟨k, o, g1, g2, g3, ⟨⟨q1, q2⟩, L, hF, hL⟩⟩ := hM2 p e ha hcs hck s m args below hfr happ ⟨hargs, hR2, mx_KK.at hK r4⟩ hT
  refine ⟨k, o, g1, g2, g3, ⟨q1, ?_⟩, L, hF, hL⟩
  have hal := hF.2.1.alike
  generalize stepsAlone p.tables e k s = t at q2 hal ⊢
  obtain ⟨t1, t2, t3, t4, t5, t6⟩ := q2
  refine ⟨t1, t2, t3, fun q hq => (t4 q hq).trans (r4 q hq), t5, fun k hk => ?_⟩
  have hk2 : k < rj.2.1 := hk
  have hk4 : rj.2.1 ≤ 4096 := t2
  show mx_ok _ t t.heap _ (mx_get 12 (mx_mix f h rj.2).2.2 k)
  rw [mx_mix_at f h rj.2 (by omega)]
  by_cases hfk : f k = true
  · rw [if_pos hfk]
    obtain ⟨f1, f2⟩ := hf k hfk
    have hsame : t.heap[mx_rho (tB l D b0 ad Hb tau).2.1.1 k]? = s.heap[mx_rho (tB l D b0 ad Hb tau).2.1.1 k]? := (mx_nj_fl (hr1 k hfk)).mp (t6 k hk2)
    exact ((r6 k f2).moved hal).kept hsame
  · rw [if_neg hfk]
    exact mx_ok_Hb (hr2 k hk2 hfk) (t6 k hk2)
end MXU
