set_option maxHeartbeats 8000000 in
set_option maxRecDepth 100000 in
theorem whole_start {p : Program} {e : Env} {s : State} {m : MethodId} {below : List Frame} {meth : Method} {c : Code} (l : Launch) {b L : Nat} {xs : Nat → Int32} (hL : L ≤ 3072) (C0 : lw_At p s m meth c b L xs) : W p l e room_1 s m #[Value.ref b] below meth c s.heap [] 0 0 (lw_Z below #[Value.ref b] s) (entryFrame m ([Value.ref b] : List Value).toArray 4) := by
  obtain ⟨hx, hb, hr, hml, hown, hts, hX, hbl, hlocks, hgv⟩ := id C0
  obtain ⟨D, ad, A, hR0⟩ := lw_env l C0
  obtain ⟨ok_v1, ok_v2, n2, n4, s4, hX4, hG4, t4, hL4⟩ := st_ok
  have hca1 : mx_Ca (tB l D s.heap.size ad s.heap (mx_tau (fun _ => 0))) 30 88 [.ref 1] h_1 (none, h_2) := mx_Ca.of (ev_all 1000000 30) ok_v1
  have hca2 : mx_Ca (tB l D s.heap.size ad s.heap (mx_tau (fun _ => 0))) 30 155 [.ref 56] h_3 (none, h_4) := mx_Ca.of (ev_all 1000000 30) ok_v2
  have le1 : mx_le h_1 h_2 := mx_Ca_le hca1
  have le2 : mx_le h_3 h_4 := mx_Ca_le hca2
  have e1 : h_1.1 = 2 := by unfold h_1; rw [mx_push_1]; rfl
  have e1s : h_1.2.1 = 17 := by unfold h_1; rw [mx_push_2]; rfl
  have e3 : h_3.1 = 57 := by unfold h_3; rw [mx_push_1, n2]
  have e3s : h_3.2.1 = h_2.2.1 + 42 := by unfold h_3; rw [mx_push_2]
  have p1 : mx_push h_0 17 (.inl (11, f_11)) = h_1 := by unfold h_1; rfl
  have p3 : mx_push h_2 42 (.inl (12, f_12)) = h_3 := by unfold h_3; rfl
  clear e1 e3
  have e1 : h_1.1 = 2 := by unfold h_1; rw [mx_push_1]; rfl
  have e3 : h_3.1 = 57 := by unfold h_3; rw [mx_push_1, n2]
  generalize hg1 : h_1 = g1 at p1 hca1 le1 e1 e1s
  generalize hg3 : h_3 = g3 at p3 hca2 le2 e3 e3s
  generalize hg2 : h_2 = g2 at p3 hca1 le1 n2 e3s
  generalize hg4 : h_4 = g4 at hca2 le2 n4 s4 hX4
  have l2 := le2.2
  have l1 := le1.2
  have hl := lv_entry ([.ref b]) (n := 4) (Nat.le_of_ble_eq_true rfl)
  rw [lg_entry_eq]
  generalize (lg_sl ([.ref b]) ++ List.replicate (4 - (lg_sl ([.ref b])).length) Slot.unset).toArray = la at hl ⊢
  have hl : lv_has la 4 [(0, .ref b)] := hl
  refine mx_Wnew (B := (tB l D s.heap.size ad s.heap (mx_tau (fun _ => 0)))) (ci := 11) (r := cr_11) (n := 17) (fs := f_11) (h := h_0) A dl_0 cs_11 rfl (tw lx_1_22 rfl) (tw lx_1_23 rfl) (tw lx_1_1 rfl) rfl fs_11 hR0 (by decide) (by decide) (by decide) (fun H hR1 => ?_)
  rw [p1] at hR1
  refine lv_dup hx hb dl_3 rfl ?_
  refine mx_Wcalli (B := (tB l D s.heap.size ad s.heap (mx_tau (fun _ => 0)))) (d := 30) (h := g1) (n := 0) (b := 1) (as := []) (rest := [.ref (mx_rho (tB l D s.heap.size ad s.heap (mx_tau (fun _ => 0))).2.1.1 1)]) (r1 := (none, g2)) A dl_4 me_88 (tw lx_1_25 rfl) rfl (tw lx_1_24 rfl) hca1 rfl hl.1 (Nat.le_of_ble_eq_true rfl) hR1 (fun q hq => by cases hq) (by decide) (by decide) ⟨by show 0 + 1 + (g2.1 - g1.1) ≤ 600000; omega, by show 0 + 17 + (g2.2.1 - g1.2.1) ≤ 7302250; omega⟩ (fun H locs hR2 hLo => ?_)
  have z1 : 0 + 1 + (g2.1 - g1.1) = 55 := by omega
  have z2 : 0 + 17 + (g2.2.1 - g1.2.1) = g2.2.1 := by omega
  refine W.cs z1 z2 ?_
  refine W.eq (g2 := F0 m 7 la [.ref (mx_rho (tB l D s.heap.size ad s.heap (mx_tau (fun _ => 0))).2.1.1 1)]) rfl ?_
  refine lv_astore_n (lv' := [(1, .ref (mx_rho (tB l D s.heap.size ad s.heap (mx_tau (fun _ => 0))).2.1.1 1)), (0, .ref b)]) hx hb dl_7 rfl hl (by decide) rfl (fun la hl => ?_)
  refine mx_Wnew (B := (tB l D s.heap.size ad s.heap (mx_tau (fun _ => 0)))) (ci := 12) (r := cr_12) (n := 42) (fs := f_12) (h := g2) A dl_8 cs_12 rfl (tw lx_5_189 rfl) (tw lx_5_190 rfl) (tw lx_1_13 rfl) rfl fs_12 hR2 (by omega) (by decide) (by show g2.2.1 + 42 ≤ 7302250; omega) (fun H hR3 => ?_)
  rw [p3] at hR3
  rw [n2]
  refine lv_dup hx hb dl_11 rfl ?_
  refine mx_Wcalli (B := (tB l D s.heap.size ad s.heap (mx_tau (fun _ => 0)))) (d := 30) (h := g3) (n := 0) (b := 56) (as := []) (rest := [.ref (mx_rho (tB l D s.heap.size ad s.heap (mx_tau (fun _ => 0))).2.1.1 56)]) (r1 := (none, g4)) A dl_12 me_155 (tw lx_5_192 rfl) rfl (tw lx_5_191 rfl) hca2 rfl hl.1 (Nat.le_of_ble_eq_true rfl) hR3 hLo (by decide) (by decide) ⟨by show 55 + 1 + (g4.1 - g3.1) ≤ 600000; omega, by show g2.2.1 + 42 + (g4.2.1 - g3.2.1) ≤ 7302250; omega⟩ (fun H locs hR hLo => ?_)
  have z3 : 55 + 1 + (g4.1 - g3.1) = 82 := by omega
  have z4 : g2.2.1 + 42 + (g4.2.1 - g3.2.1) = g4.2.1 := by omega
  refine W.cs z3 z4 ?_
  refine W.eq (g2 := F0 m 15 la [.ref (mx_rho (tB l D s.heap.size ad s.heap (mx_tau (fun _ => 0))).2.1.1 56)]) rfl ?_
  refine lv_astore_n (lv' := [(2, .ref (mx_rho (tB l D s.heap.size ad s.heap (mx_tau (fun _ => 0))).2.1.1 56)), (1, .ref (mx_rho (tB l D s.heap.size ad s.heap (mx_tau (fun _ => 0))).2.1.1 1)), (0, .ref b)]) hx hb dl_15 rfl hl (by decide) rfl (fun la hl => ?_)
  refine lv_iconst (v := 0) hx hb dl_16 (by decide) ?_
  refine lv_istore_n (lv' := [(3, .int 0), (2, .ref (mx_rho (tB l D s.heap.size ad s.heap (mx_tau (fun _ => 0))).2.1.1 56)), (1, .ref (mx_rho (tB l D s.heap.size ad s.heap (mx_tau (fun _ => 0))).2.1.1 1)), (0, .ref b)]) hx hb dl_17 rfl hl (by decide) rfl (fun la hl => ?_)
  have hR : mx_Rp (tB l D s.heap.size ad s.heap (mx_tau (fun _ => 0))).2.1.1 s g4 H := hR
  refine lw_loop C0 hL A 512 0 H locs la 82 g4.2.1 (by omega) (by omega) ⟨83, g4.2.1, S0, Z0, g4, hX4, ⟨hG4, hL4⟩, hR, hLo, ?_, ⟨by rw [t4]; decide, by omega⟩, rfl, rfl⟩
  rw [show nI (6 * 0) = (0 : Int32) from nI_0]
  exact lv_sub hl [3, 2, 1, 0] rfl
