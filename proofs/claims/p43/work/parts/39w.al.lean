/-! the new object of the laws told; what a read text is -/
section ALx
variable {l : Launch} {D : va_G} {b0 : Nat} {ad : Nat → Nat} {Hb : Heap} {tau : Nat → Int64} {d n s : Nat} {S : Nat → xS} {Z : xZ} {h : mx_H}
theorem ct_39_3x (hx : XH n s S Z h) (hG : GI n S Z) (hn : n < 4096) : ∃ (h' : mx_H) (S' : Nat → xS) (Z' : xZ), mx_Ca (tB l D b0 ad Hb tau) (d + 3) 39 [.ref 3] h (some (.ref n), h') ∧ XH (n + 1) (s + 3) S' Z' h' ∧ GI (n + 1) S' Z' ∧ fr8 [] Z Z' ∧ S' n = .inl (3, [2, 2, 0]) ∧ (Z' n 0 = Z 3 8 ∧ Z' n 1 = Z 3 9 ∧ Z' n 2 = Z 3 10) ∧ ∀ k, k < n → Z' k = Z k := by
  have a3 : 3 < n := lt83 (GI_n hG) rfl
  have s3 : S 3 = .inl (7, [2, 0, 0, 0, 0, 0, 2, 0, 2, 2, 0, 2, 0, 0, 0, 0]) := GI_s hG 3 rfl
  have hc3 := hx.obj a3 s3
  obtain ⟨cg, lg, eg, og, ag, lg9, sg⟩ := (GB_dy hG.1).2.2.2.1
  obtain ⟨cm, lm, em, om, am, lm9, sm⟩ := (GB_dy hG.1).2.2.2.2
  have hN : h.1 = n := hx.1
  have h8 : mx_fld (mx_push h 3 (.inl (3, [.null, .null, .int 0]))) 3 7 8 = some (.ref cg) := by
    have e := fl_nth (f := Z 3) (i := 0) (show mx_nth [2, 0, 0, 0, 0, 0, 2, 0, 2, 2, 0, 2, 0, 0, 0, 0] 8 = some 2 from rfl)
    unfold mx_fld
    rw [show mx_cell (mx_push h 3 (.inl (3, [.null, .null, .int 0]))) 3 = mx_cell h 3 from (by unfold mx_cell; rw [show Nat.blt 3 (mx_push h 3 (.inl (3, [.null, .null, .int 0]))).1 = true from Nat.ble_eq.mpr (by show 3 + 1 ≤ h.1 + 1; omega), show Nat.blt 3 h.1 = true from Nat.ble_eq.mpr (by show 3 + 1 ≤ h.1; omega)]; show some (mx_get 12 (mx_set 12 h.2.2 h.1 _) 3) = some (mx_get 12 h.2.2 3); rw [mx_get_set _ 12 h.2.2 h.1 3 (by show h.1 < 4096; omega) (by show 3 < 4096; omega), if_neg (by omega)]), hc3]
    show mx_nth (fl [2, 0, 0, 0, 0, 0, 2, 0, 2, 2, 0, 2, 0, 0, 0, 0] (Z 3) 0) 8 = _
    rw [e]
    show some (Value.ref (Z 3 8).toNat) = _
    rw [eg]; rfl
  have h9 : mx_fld (mx_push h 3 (.inl (3, [.null, .null, .int 0]))) 3 7 9 = some (.ref cm) := by
    have e := fl_nth (f := Z 3) (i := 0) (show mx_nth [2, 0, 0, 0, 0, 0, 2, 0, 2, 2, 0, 2, 0, 0, 0, 0] 9 = some 2 from rfl)
    unfold mx_fld
    rw [show mx_cell (mx_push h 3 (.inl (3, [.null, .null, .int 0]))) 3 = mx_cell h 3 from (by unfold mx_cell; rw [show Nat.blt 3 (mx_push h 3 (.inl (3, [.null, .null, .int 0]))).1 = true from Nat.ble_eq.mpr (by show 3 + 1 ≤ h.1 + 1; omega), show Nat.blt 3 h.1 = true from Nat.ble_eq.mpr (by show 3 + 1 ≤ h.1; omega)]; show some (mx_get 12 (mx_set 12 h.2.2 h.1 _) 3) = some (mx_get 12 h.2.2 3); rw [mx_get_set _ 12 h.2.2 h.1 3 (by show h.1 < 4096; omega) (by show 3 < 4096; omega), if_neg (by omega)]), hc3]
    show mx_nth (fl [2, 0, 0, 0, 0, 0, 2, 0, 2, 2, 0, 2, 0, 0, 0, 0] (Z 3) 0) 9 = _
    rw [e]
    show some (Value.ref (Z 3 9).toNat) = _
    rw [em]; rfl
  have h10 : mx_fld (mx_push h 3 (.inl (3, [.null, .null, .int 0]))) 3 7 10 = some (xI (Z 3 10)) := by
    have e := fl_nth (f := Z 3) (i := 0) (show mx_nth [2, 0, 0, 0, 0, 0, 2, 0, 2, 2, 0, 2, 0, 0, 0, 0] 10 = some 0 from rfl)
    unfold mx_fld
    rw [show mx_cell (mx_push h 3 (.inl (3, [.null, .null, .int 0]))) 3 = mx_cell h 3 from (by unfold mx_cell; rw [show Nat.blt 3 (mx_push h 3 (.inl (3, [.null, .null, .int 0]))).1 = true from Nat.ble_eq.mpr (by show 3 + 1 ≤ h.1 + 1; omega), show Nat.blt 3 h.1 = true from Nat.ble_eq.mpr (by show 3 + 1 ≤ h.1; omega)]; show some (mx_get 12 (mx_set 12 h.2.2 h.1 _) 3) = some (mx_get 12 h.2.2 3); rw [mx_get_set _ 12 h.2.2 h.1 3 (by show h.1 < 4096; omega) (by show 3 < 4096; omega), if_neg (by omega)]), hc3]
    show mx_nth (fl [2, 0, 0, 0, 0, 0, 2, 0, 2, 2, 0, 2, 0, 0, 0, 0] (Z 3) 0) 10 = _
    rw [e]
    rfl
  have hcn : mx_cell (mx_push h 3 (.inl (3, [.null, .null, .int 0]))) n = some (.inl (3, [.null, .null, .int 0])) := by
    refine mx_cell_of2 (by show n < h.1 + 1; omega) ?_
    show mx_get 12 (mx_set 12 h.2.2 h.1 _) n = _
    rw [mx_get_set _ 12 h.2.2 h.1 n (by show h.1 < 4096; omega) (by show n < 4096; omega), if_pos hN.symm]
  obtain ⟨h2, hca2, e1, e2, e3⟩ := ct_22 (l := l) (D := D) (b0 := b0) (ad := ad) (Hb := Hb) (tau := tau) (d := d) (g := cg) (m := cm) (x := Z 3 10) hcn rfl (by have := GI_n hG; omega) (by show h.1 + 1 ≤ 4096; omega)
  obtain ⟨r, hca, e⟩ := Jmt (B := tB l D b0 ad Hb tau) (M := mt_39) (mi := 39) (as := [.ref 3]) (d := d + 2) (h := h) (ls := [some (.ref 3)]) (Post := fun r => r = (some (.ref n), h2)) rfl rfl rfl rfl rfl rfl (by
    refine mx_J.step (ls2 := [some (.ref 3)]) (st2 := [.ref n]) (h2 := mx_push h 3 (.inl (3, [.null, .null, .int 0]))) (nx := 3) (show mx_Sn _ _ 0 (mx_new 3 3 [.null, .null, .int 0] 3) from sn_39 0) (fun k call => ?_) ?_
    · unfold mx_new
      rw [show Nat.blt h.1 4096 = true from Nat.ble_eq.mpr (by rw [hN]; exact hn), hN]
      rfl
    refine mx_J.step (sn_39 3) (fun _ _ => rfl) ?_
    refine mx_J.step (sn_39 4) (fun _ _ => rfl) ?_
    refine mx_J.getf (show mx_Sn _ _ 5 (mx_getf 7 8 8) from sn_39 5) h8 ?_
    refine mx_J.step (sn_39 8) (fun _ _ => rfl) ?_
    refine mx_J.getf (show mx_Sn _ _ 9 (mx_getf 7 9 12) from sn_39 9) h9 ?_
    refine mx_J.step (sn_39 12) (fun _ _ => rfl) ?_
    refine mx_J.getf (show mx_Sn _ _ 13 (mx_getf 7 10 16) from sn_39 13) h10 ?_
    refine Jci0 (show mx_Sn _ _ 16 (mx_calli 22 4 19) from sn_39 16) hca2 rfl rfl rfl ?_
    exact mx_J.ret (sn_39 19) (fun _ _ => rfl) rfl)
  subst e
  refine ⟨h2, xS1 S n (.inl (3, [2, 2, 0])), xZ1 Z n (fun i => if i = 0 then (cg : Int) else if i = 1 then (cm : Int) else Z 3 10), hca, ⟨?_, ?_, by omega, fun k hk => ?_⟩, GI_new hG (fun i => ?_) (fun len e => by cases e) (fun _ => ⟨⟨cg, lg, rfl, og, ag, lg9, sg⟩, ⟨cm, lm, rfl, om, am, lm9, sm⟩, (by have b10 : (bd 3 10).1 ≤ Z 3 10 ∧ Z 3 10 ≤ (bd 3 10).2 := hG.pr 3 10; have b10 : 0 ≤ Z 3 10 ∧ Z 3 10 ≤ 901 := b10; show -2147483648 ≤ Z 3 10 ∧ Z 3 10 ≤ 2147483647; omega)⟩), fr8_new hG, xS1_n, ⟨by rw [xZ1_n]; exact eg.symm, by rw [xZ1_n]; exact em.symm, by rw [xZ1_n]; rfl⟩, fun k hk => xZ1_o hk⟩
  · rw [e1]; show h.1 + 1 = n + 1; rw [hN]
  · rw [e2]; show h.2.1 + 3 = s + 3; rw [hx.2.1]
  · rw [e3 k (by omega)]
    by_cases hkn : k = n
    · rw [if_pos hkn, hkn, xS1_n, xZ1_n]; rfl
    · rw [if_neg hkn, xS1_o (by omega), xZ1_o (by omega)]
      show cR (S k) (Z k) (mx_get 12 (mx_set 12 h.2.2 h.1 _) k)
      rw [mx_get_set _ 12 h.2.2 h.1 k (by show h.1 < 4096; omega) (by show k < 4096; omega), hN, if_neg hkn]
      exact hx.2.2.2 k (by omega)
  · show iL (if i = 0 then (cg : Int) else if i = 1 then (cm : Int) else Z 3 10)
    have b10 : (bd 3 10).1 ≤ Z 3 10 ∧ Z 3 10 ≤ (bd 3 10).2 := hG.pr 3 10
    have b10 : 0 ≤ Z 3 10 ∧ Z 3 10 ≤ 901 := b10
    split
    · omega
    · split <;> omega
theorem ca_39x (hx : XH n s S Z h) (hG : GI n S Z) (hn : ((n : Nat) : Int) ≤ 4095) : ∃ (r n' s' : Nat) (S' : Nat → xS) (Z' : xZ) (h' : mx_H), mx_Ca (tB l D b0 ad Hb tau) (d + 3) 39 [.ref 3] h (some (.ref r), h') ∧ XH n' s' S' Z' h' ∧ GI n' S' Z' ∧ fr8 [] Z Z' ∧ (((n' : Nat) : Int) = ((n : Nat) : Int) + 1 ∧ ((s' : Nat) : Int) = ((s : Nat) : Int) + 3 ∧ 83 ≤ r ∧ Z' r 0 = Z 3 8 ∧ Z' r 1 = Z 3 9 ∧ Z' r 2 = Z 3 10) ∧ okL r ∧ r < n' ∧ S' r = .inl (3, [2, 2, 0]) := by
  obtain ⟨h', S', Z', hc, q1, q2, q3, q4, q5, q6⟩ := ct_39_3x (l := l) (D := D) (b0 := b0) (ad := ad) (Hb := Hb) (tau := tau) (d := d) hx hG (by omega)
  exact ⟨n, n + 1, s + 3, S', Z', h', hc, q1, q2, q3, ⟨by omega, by omega, GI_n hG, q5⟩, by have := GI_n hG; unfold okL; omega, by omega, q4⟩
end ALx
theorem GI_pr2 {n : Nat} {S : Nat → xS} {Z : xZ} (hG : GI n S Z) (i : Int) : -128 ≤ Z 2 i ∧ Z 2 i ≤ 127 := hG.pr 2 i
theorem fr_dy {M : List (Nat × Int)} {Z Z2 : xZ} {r : Nat} (h : fr' M Z Z2) (hM : (M.all fun q => Nat.blt q.1 83) = true) (hr : 83 ≤ r) (i : Int) : Z2 r i = Z r i := by
  refine h r i ?_
  cases hm : mm M r i with
  | false => rfl
  | true =>
    exfalso
    obtain ⟨q, q1, q2, _⟩ := mm_ex hm
    have a := List.all_eq_true.mp hM q q1
    have a : q.1 + 1 ≤ 83 := Nat.ble_eq.mp a
    omega
section RDa
variable {T : Int → Int} {N : Int} {Z Z' : xZ}
def TB (T : Int → Int) (N : Int) (Z : xZ) : Prop := ∀ i, 0 ≤ i → i < N → T i = Z 2 i % 256
theorem TB_c (h : TB T N Z) (e : ∀ i, Z' 2 i = Z 2 i) : TB T N Z' := fun i a b => by rw [e]; exact h i a b
def RDc (T : Int → Int) (N : Int) (Z : xZ) : Prop := ∃ (s : SS) (t : Int), RC T N Z s ∧ RZ T N s t (Z 3 10) ∧ (t = 0 → Z 3 12 = 1) ∧ (¬ t = 0 → Z 3 12 = t)
theorem RC_24 {s : SS} (h : RC T N Z s) (q : Z 3 4 = 3 ∨ N ≤ Z 3 3) : ¬ (0 ≤ s.1 ∧ ¬ tKd T N s.1 = 24) := fun g => by
  have p := RC_p h
  have p2 := p.2.1 g.1
  have b := tBg_e (T := T) (N := N) s.1
  have g1 := g.1
  have n3 : ¬ Z 3 4 = 3 := fun e => by have := p.1.mpr e; omega
  exact g.2 (tKd_end (T := T) (N := N) (p := s.1) (by omega)).1
theorem RDc_f (h : RDc T N Z) : (¬ Z 3 14 = 0 → (rdX T N).1.1 = -(8 * Z 3 15 + Z 3 14) ∧ (rdX T N).1.1 < 0 ∧ 1 ≤ Z 3 14) ∧ (Z 3 14 = 0 → Z 3 15 = -1 ∧ 0 ≤ (rdX T N).1.1 ∧ (rdX T N).2.2 = Z 3 10) := by
  obtain ⟨s, t, h1, h2, _⟩ := h
  have e := h2.1
  rcases h1.2 with r | ⟨u, r⟩
  · refine ⟨fun _ => ⟨by rw [e]; exact r.2.2.2, by rw [e]; exact r.1, r.2.2.1⟩, fun q => ?_⟩
    have := r.2.2.1
    omega
  · refine ⟨fun q => absurd r.2.2.2.1 q, fun _ => ⟨u, by rw [e]; exact r.1, (h2.2 r.1).1⟩⟩
/-- what barn() answers: lines, or the fault and its place -/
def BR (T : Int → Int) (N z k p : Int) : Prop := ((rdX T N).1.1 < 0 → (rdX T N).1.1 = -(8 * p + k) ∧ 1 ≤ k ∧ z = -30 - k) ∧ (0 ≤ (rdX T N).1.1 → k = 0 ∧ p = -1 ∧ z = (rdX T N).2.2)
theorem BR_u {z k p z' k' p' : Int} (h : BR T N z k p) (h' : BR T N z' k' p') (hk : k ≤ 4) (hk' : k' ≤ 4) : z = z' ∧ k = k' ∧ p = p' := by
  unfold BR at h h'
  omega
end RDa
