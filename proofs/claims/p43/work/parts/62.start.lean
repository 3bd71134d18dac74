theorem tsub {w : Cond} (h : w ∈ tbig) : w ∈ lw_tbl := (List.mem_filter.mp h).1
theorem ki_0 : Cond.instantiable "TitheHeap$Atlas" 6 ∈ lw_tbl := (tlw_1 (List.mem_of_getElem? (i := 95) (by decide +kernel)))
theorem ki_1 : Cond.instantiable "TitheHeap$Draws" 1 ∈ lw_tbl := (tlw_4 (List.mem_of_getElem? (i := 94) (by decide +kernel)))
theorem ki_2 : Cond.instantiable "TitheHeap$Going" 12 ∈ lw_tbl := (tlw_1 (List.mem_of_getElem? (i := 183) (by decide +kernel)))
theorem ki_3 : Cond.instantiable "TitheHeap$Laws" 3 ∈ lw_tbl := (tlw_1 (List.mem_of_getElem? (i := 135) (by decide +kernel)))
theorem ki_4 : Cond.instantiable "TitheHeap$Mill" 9 ∈ lw_tbl := (tlw_1 (List.mem_of_getElem? (i := 129) (by decide +kernel)))
theorem ki_5 : Cond.instantiable "TitheHeap$Moment" 6 ∈ lw_tbl := (tlw_2 (List.mem_of_getElem? (i := 47) (by decide +kernel)))
theorem ki_6 : Cond.instantiable "TitheHeap$Past" 2 ∈ lw_tbl := (tlw_2 (List.mem_of_getElem? (i := 84) (by decide +kernel)))
theorem ki_7 : Cond.instantiable "TitheHeap$Reader" 16 ∈ lw_tbl := (tlw_1 (List.mem_of_getElem? (i := 31) (by decide +kernel)))
theorem ki_8 : Cond.instantiable "TitheHeap$Search" 9 ∈ lw_tbl := (tlw_1 (List.mem_of_getElem? (i := 232) (by decide +kernel)))
theorem ki_9 : Cond.instantiable "TitheHeap$Spread" 3 ∈ lw_tbl := (tlw_2 (List.mem_of_getElem? (i := 27) (by decide +kernel)))
theorem ki_10 : Cond.instantiable "TitheHeap$Tray" 4 ∈ lw_tbl := (tlw_2 (List.mem_of_getElem? (i := 97) (by decide +kernel)))
theorem ki_11 : Cond.instantiable "TitheHeap" 17 ∈ lw_tbl := (tlw_1 (List.mem_of_getElem? (i := 23) (by decide +kernel)))
theorem ki_12 : Cond.instantiable "TitheHeapModel" 42 ∈ lw_tbl := (tlw_5 (List.mem_of_getElem? (i := 190) (by decide +kernel)))
theorem aw_0 : Cond.arrayOver (.object "TitheHeap$Tray") ∈ lw_tbl := (tlw_2 (List.mem_of_getElem? (i := 44) (by decide +kernel)))
theorem aw_1 : Cond.arrayOver (.object "TitheHeap$Moment") ∈ lw_tbl := (tlw_2 (List.mem_of_getElem? (i := 46) (by decide +kernel)))
theorem nw_0 : (Jvm.Cond.methodLinkNest "TitheHeap" (25 : Nat) ({ cls := "TitheHeap$Reader", name := "<init>", desc := "()V" } : Jvm.MethodName) "TitheHeap") ∈ lw_tbl := (tlw_1 (List.mem_of_getElem? (i := 32) (by decide +kernel)))
theorem nw_1 : (Jvm.Cond.methodLinkNest "TitheHeap" (81 : Nat) ({ cls := "TitheHeap$Moment", name := "<init>", desc := "()V" } : Jvm.MethodName) "TitheHeap") ∈ lw_tbl := (tlw_2 (List.mem_of_getElem? (i := 48) (by decide +kernel)))
theorem nw_2 : (Jvm.Cond.methodLinkNest "TitheHeap" (91 : Nat) ({ cls := "TitheHeap$Past", name := "<init>", desc := "()V" } : Jvm.MethodName) "TitheHeap") ∈ lw_tbl := (tlw_2 (List.mem_of_getElem? (i := 85) (by decide +kernel)))
theorem nw_3 : (Jvm.Cond.methodLinkNest "TitheHeap" (103 : Nat) ({ cls := "TitheHeap$Tray", name := "<init>", desc := "()V" } : Jvm.MethodName) "TitheHeap") ∈ lw_tbl := (tlw_2 (List.mem_of_getElem? (i := 98) (by decide +kernel)))
theorem zw_l : Cond.laysStatic "TitheHeap$Laws" "NO_LAW" "[I" ∈ lw_tbl := (tlw_1 (List.mem_of_getElem? (i := 37) (by decide +kernel)))
theorem zw_i : Cond.initialized "TitheHeap$Laws" ∈ lw_tbl := (tlw_1 (List.mem_of_getElem? (i := 3) (by decide +kernel)))
set_option maxHeartbeats 4000000 in
set_option maxRecDepth 100000 in
theorem lw_cls {s : State} {b : Nat} (hts : ∀ w ∈ lw_tbl, w.before #[Value.ref b] s = true) : ∃ D : va_G, va_K D tcl [] s := by
  obtain ⟨c0, i0, h0⟩ := u_known (C := "TitheHeap$Atlas") (T := ct_0) (N := 6) (n := 6) hts (fun w hw => tsub (cw_0 w hw)) (hts _ ki_0)
  obtain ⟨c1, i1, h1⟩ := u_known (C := "TitheHeap$Draws") (T := ct_1) (N := 1) (n := 1) hts (fun w hw => tsub (cw_1 w hw)) (hts _ ki_1)
  obtain ⟨c2, i2, h2⟩ := u_known (C := "TitheHeap$Going") (T := ct_2) (N := 12) (n := 12) hts (fun w hw => tsub (cw_2 w hw)) (hts _ ki_2)
  obtain ⟨c3, i3, h3⟩ := u_known (C := "TitheHeap$Laws") (T := ct_3) (N := 3) (n := 3) hts (fun w hw => tsub (cw_3 w hw)) (hts _ ki_3)
  obtain ⟨c4, i4, h4⟩ := u_known (C := "TitheHeap$Mill") (T := ct_4) (N := 9) (n := 9) hts (fun w hw => tsub (cw_4 w hw)) (hts _ ki_4)
  obtain ⟨c5, i5, h5⟩ := u_known (C := "TitheHeap$Moment") (T := ct_5) (N := 6) (n := 6) hts (fun w hw => tsub (cw_5 w hw)) (hts _ ki_5)
  obtain ⟨c6, i6, h6⟩ := u_known (C := "TitheHeap$Past") (T := ct_6) (N := 2) (n := 2) hts (fun w hw => tsub (cw_6 w hw)) (hts _ ki_6)
  obtain ⟨c7, i7, h7⟩ := u_known (C := "TitheHeap$Reader") (T := ct_7) (N := 16) (n := 16) hts (fun w hw => tsub (cw_7 w hw)) (hts _ ki_7)
  obtain ⟨c8, i8, h8⟩ := u_known (C := "TitheHeap$Search") (T := ct_8) (N := 9) (n := 9) hts (fun w hw => tsub (cw_8 w hw)) (hts _ ki_8)
  obtain ⟨c9, i9, h9⟩ := u_known (C := "TitheHeap$Spread") (T := ct_9) (N := 3) (n := 3) hts (fun w hw => tsub (cw_9 w hw)) (hts _ ki_9)
  obtain ⟨c10, i10, h10⟩ := u_known (C := "TitheHeap$Tray") (T := ct_10) (N := 4) (n := 4) hts (fun w hw => tsub (cw_10 w hw)) (hts _ ki_10)
  obtain ⟨c11, i11, h11⟩ := u_known (C := "TitheHeap") (T := ct_11) (N := 17) (n := 17) hts (fun w hw => tsub (cw_11 w hw)) (hts _ ki_11)
  obtain ⟨c12, i12, h12⟩ := u_known (C := "TitheHeapModel") (T := ct_12) (N := 42) (n := 42) hts (fun w hw => tsub (cw_12 w hw)) (hts _ ki_12)
  refine ⟨(fun k => if k = 0 then c0 else (if k = 1 then c1 else (if k = 2 then c2 else (if k = 3 then c3 else (if k = 4 then c4 else (if k = 5 then c5 else (if k = 6 then c6 else (if k = 7 then c7 else (if k = 8 then c8 else (if k = 9 then c9 else (if k = 10 then c10 else (if k = 11 then c11 else (c12)))))))))))), fun k => if k = 0 then i0 else (if k = 1 then i1 else (if k = 2 then i2 else (if k = 3 then i3 else (if k = 4 then i4 else (if k = 5 then i5 else (if k = 6 then i6 else (if k = 7 then i7 else (if k = 8 then i8 else (if k = 9 then i9 else (if k = 10 then i10 else (if k = 11 then i11 else (i12))))))))))))), ?_, fun k q h => by simp at h⟩
  intro k q hq
  match k, hq with
  | 0, hq => cases hq; exact h0
  | 1, hq => cases hq; exact h1
  | 2, hq => cases hq; exact h2
  | 3, hq => cases hq; exact h3
  | 4, hq => cases hq; exact h4
  | 5, hq => cases hq; exact h5
  | 6, hq => cases hq; exact h6
  | 7, hq => cases hq; exact h7
  | 8, hq => cases hq; exact h8
  | 9, hq => cases hq; exact h9
  | 10, hq => cases hq; exact h10
  | 11, hq => cases hq; exact h11
  | 12, hq => cases hq; exact h12
  | k + 13, hq => simp [tcl] at hq
theorem sw_0 : Cond.stringRef "TitheHeap$Reader" 163 sx_0 ∈ lw_tbl := (tlw_2 (List.mem_of_getElem? (i := 223) (by decide +kernel)))
theorem sw_1 : Cond.stringRef "TitheHeap$Reader" 155 sx_1 ∈ lw_tbl := (tlw_3 (List.mem_of_getElem? (i := 36) (by decide +kernel)))
theorem sw_2 : Cond.stringRef "TitheHeapModel" 110 sx_2 ∈ lw_tbl := (tlw_6 (List.mem_of_getElem? (i := 120) (by decide +kernel)))
theorem sw_3 : Cond.stringRef "TitheHeapModel" 148 sx_1 ∈ lw_tbl := (tlw_6 (List.mem_of_getElem? (i := 126) (by decide +kernel)))
theorem cz_l : Cond.laysStatic "java/lang/String" "COMPACT_STRINGS" "Z" ∈ lw_tbl := (tlw_2 (List.mem_of_getElem? (i := 233) (by decide +kernel)))
theorem cz_i : Cond.initialized "java/lang/String" ∈ lw_tbl := (tlw_1 (List.mem_of_getElem? (i := 15) (by decide +kernel)))
theorem pz_l : Cond.laysStatic "jdk/internal/util/Preconditions" "SIOOBE_FORMATTER" "Ljava/util/function/BiFunction;" ∈ lw_tbl := (tlw_3 (List.mem_of_getElem? (i := 9) (by decide +kernel)))
theorem pz_i : Cond.initialized "jdk/internal/util/Preconditions" ∈ lw_tbl := (tlw_1 (List.mem_of_getElem? (i := 17) (by decide +kernel)))
theorem mx_at0 (n s : Nat) (t : mx_T mx_C 12) (c : mx_C) : mx_get 12 ((n, s, mx_set 12 t 0 c) : mx_H).2.2 0 = c := (mx_get_set _ 12 t 0 0 (by decide) (by decide)).trans (if_pos rfl)
theorem h_0_at : mx_get 12 h_0.2.2 0 = .inr (.int, 0, mx_rep (.int 0) 13) := by
  unfold h_0
  exact mx_at0 _ _ _ _
set_option maxHeartbeats 8000000 in
set_option maxRecDepth 1000000 in
theorem ls_0 {s : State} {b : Nat} (hgv : (Jvm.Cond.and given_1 narrow_1).before #[Value.ref b] s = true) (hts : ∀ w ∈ lw_tbl, w.before #[Value.ref b] s = true) : ∃ ka va : Nat, vk_R "TitheHeap$Reader" 163 sx_0 ka s ∧ va_O "java/lang/String" ka (fun q => s.heap.size ≤ q) s s.heap ∧ va_OF "java/lang/String" "coder" "B" (.int 0) ka (fun q => s.heap.size ≤ q) s s.heap ∧ va_OF "java/lang/String" "value" "[B" (.ref va) ka (fun q => s.heap.size ≤ q) s s.heap ∧ va_T .byte va sb_0.length (fun j => .int (sb_0.getD j 0)) (fun q => s.heap.size ≤ q) s s.heap := by
  have hs := flat_of_before _ hgv
  have hA : ∀ a : Nat, a < s.heap.size → ¬ (fun q : Nat => s.heap.size ≤ q) a := fun a ha => Nat.not_le.mpr ha
  have hel : ∀ j : Nat, j < 76 → (Cond.eq (.elem (.field (Term.string "TitheHeap$Reader" 163) "java/lang/String" "value" "[B") (.int (Int32.ofNat j))) (.int (sb_0.getD j 0))).before #[Value.ref b] s = true := fun j hj => hs _ ((by decide +kernel : ∀ j : Nat, j < 76 → Cond.eq (.elem (.field (Term.string "TitheHeap$Reader" 163) "java/lang/String" "value" "[B") (.int (Int32.ofNat j))) (.int (sb_0.getD j 0)) ∈ _) j hj)
  obtain ⟨aK, aV, h1, h2⟩ := vk_Sof (N := 1) (tm := fun _ => (Term.string "TitheHeap$Reader" 163)) (len := [76]) (byt := [sb_0]) (A := fun q : Nat => s.heap.size ≤ q)
    (fun i hi => by have e : i = 0 := by omega
                    subst e; decide)
    (fun i hi => hs _ (by decide +kernel)) (fun i hi => hs _ (by decide +kernel)) (fun i hi => hs _ (by decide +kernel))
    (fun i hi => by have e : i = 0 := by omega
                    subst e; exact hs _ (by decide +kernel))
    (fun i hi j hj => by have e : i = 0 := by omega
                         subst e; exact hel j hj)
    (fun i j hi hj hne => absurd (show i = j by omega) hne) hA
  obtain ⟨g1, g2, g3, g4⟩ := h1.1 0 (by decide)
  exact ⟨aK 0, aV 0, vk_R.of (hts _ sw_0) (h2 0 (by decide)), g1, g2, g3, g4⟩
set_option maxHeartbeats 8000000 in
set_option maxRecDepth 1000000 in
theorem ls_1 {s : State} {b : Nat} (hgv : (Jvm.Cond.and given_1 narrow_1).before #[Value.ref b] s = true) (hts : ∀ w ∈ lw_tbl, w.before #[Value.ref b] s = true) : ∃ ka va : Nat, vk_R "TitheHeap$Reader" 155 sx_1 ka s ∧ va_O "java/lang/String" ka (fun q => s.heap.size ≤ q) s s.heap ∧ va_OF "java/lang/String" "coder" "B" (.int 0) ka (fun q => s.heap.size ≤ q) s s.heap ∧ va_OF "java/lang/String" "value" "[B" (.ref va) ka (fun q => s.heap.size ≤ q) s s.heap ∧ va_T .byte va sb_1.length (fun j => .int (sb_1.getD j 0)) (fun q => s.heap.size ≤ q) s s.heap := by
  have hs := flat_of_before _ hgv
  have hA : ∀ a : Nat, a < s.heap.size → ¬ (fun q : Nat => s.heap.size ≤ q) a := fun a ha => Nat.not_le.mpr ha
  have hel : ∀ j : Nat, j < 12 → (Cond.eq (.elem (.field (Term.string "TitheHeap$Reader" 155) "java/lang/String" "value" "[B") (.int (Int32.ofNat j))) (.int (sb_1.getD j 0))).before #[Value.ref b] s = true := fun j hj => hs _ ((by decide +kernel : ∀ j : Nat, j < 12 → Cond.eq (.elem (.field (Term.string "TitheHeap$Reader" 155) "java/lang/String" "value" "[B") (.int (Int32.ofNat j))) (.int (sb_1.getD j 0)) ∈ _) j hj)
  obtain ⟨aK, aV, h1, h2⟩ := vk_Sof (N := 1) (tm := fun _ => (Term.string "TitheHeap$Reader" 155)) (len := [12]) (byt := [sb_1]) (A := fun q : Nat => s.heap.size ≤ q)
    (fun i hi => by have e : i = 0 := by omega
                    subst e; decide)
    (fun i hi => hs _ (by decide +kernel)) (fun i hi => hs _ (by decide +kernel)) (fun i hi => hs _ (by decide +kernel))
    (fun i hi => by have e : i = 0 := by omega
                    subst e; exact hs _ (by decide +kernel))
    (fun i hi j hj => by have e : i = 0 := by omega
                         subst e; exact hel j hj)
    (fun i j hi hj hne => absurd (show i = j by omega) hne) hA
  obtain ⟨g1, g2, g3, g4⟩ := h1.1 0 (by decide)
  exact ⟨aK 0, aV 0, vk_R.of (hts _ sw_1) (h2 0 (by decide)), g1, g2, g3, g4⟩
set_option maxHeartbeats 8000000 in
set_option maxRecDepth 1000000 in
theorem ls_2 {s : State} {b : Nat} (hgv : (Jvm.Cond.and given_1 narrow_1).before #[Value.ref b] s = true) (hts : ∀ w ∈ lw_tbl, w.before #[Value.ref b] s = true) : ∃ ka va : Nat, vk_R "TitheHeapModel" 110 sx_2 ka s ∧ va_O "java/lang/String" ka (fun q => s.heap.size ≤ q) s s.heap ∧ va_OF "java/lang/String" "coder" "B" (.int 0) ka (fun q => s.heap.size ≤ q) s s.heap ∧ va_OF "java/lang/String" "value" "[B" (.ref va) ka (fun q => s.heap.size ≤ q) s s.heap ∧ va_T .byte va sb_2.length (fun j => .int (sb_2.getD j 0)) (fun q => s.heap.size ≤ q) s s.heap := by
  have hs := flat_of_before _ hgv
  have hA : ∀ a : Nat, a < s.heap.size → ¬ (fun q : Nat => s.heap.size ≤ q) a := fun a ha => Nat.not_le.mpr ha
  have hel : ∀ j : Nat, j < 77 → (Cond.eq (.elem (.field (Term.string "TitheHeapModel" 110) "java/lang/String" "value" "[B") (.int (Int32.ofNat j))) (.int (sb_2.getD j 0))).before #[Value.ref b] s = true := fun j hj => hs _ ((by decide +kernel : ∀ j : Nat, j < 77 → Cond.eq (.elem (.field (Term.string "TitheHeapModel" 110) "java/lang/String" "value" "[B") (.int (Int32.ofNat j))) (.int (sb_2.getD j 0)) ∈ _) j hj)
  obtain ⟨aK, aV, h1, h2⟩ := vk_Sof (N := 1) (tm := fun _ => (Term.string "TitheHeapModel" 110)) (len := [77]) (byt := [sb_2]) (A := fun q : Nat => s.heap.size ≤ q)
    (fun i hi => by have e : i = 0 := by omega
                    subst e; decide)
    (fun i hi => hs _ (by decide +kernel)) (fun i hi => hs _ (by decide +kernel)) (fun i hi => hs _ (by decide +kernel))
    (fun i hi => by have e : i = 0 := by omega
                    subst e; exact hs _ (by decide +kernel))
    (fun i hi j hj => by have e : i = 0 := by omega
                         subst e; exact hel j hj)
    (fun i j hi hj hne => absurd (show i = j by omega) hne) hA
  obtain ⟨g1, g2, g3, g4⟩ := h1.1 0 (by decide)
  exact ⟨aK 0, aV 0, vk_R.of (hts _ sw_2) (h2 0 (by decide)), g1, g2, g3, g4⟩
set_option maxHeartbeats 8000000 in
set_option maxRecDepth 1000000 in
theorem ls_3 {s : State} {b : Nat} (hgv : (Jvm.Cond.and given_1 narrow_1).before #[Value.ref b] s = true) (hts : ∀ w ∈ lw_tbl, w.before #[Value.ref b] s = true) : ∃ ka va : Nat, vk_R "TitheHeapModel" 148 sx_1 ka s ∧ va_O "java/lang/String" ka (fun q => s.heap.size ≤ q) s s.heap ∧ va_OF "java/lang/String" "coder" "B" (.int 0) ka (fun q => s.heap.size ≤ q) s s.heap ∧ va_OF "java/lang/String" "value" "[B" (.ref va) ka (fun q => s.heap.size ≤ q) s s.heap ∧ va_T .byte va sb_1.length (fun j => .int (sb_1.getD j 0)) (fun q => s.heap.size ≤ q) s s.heap := by
  have hs := flat_of_before _ hgv
  have hA : ∀ a : Nat, a < s.heap.size → ¬ (fun q : Nat => s.heap.size ≤ q) a := fun a ha => Nat.not_le.mpr ha
  have hel : ∀ j : Nat, j < 12 → (Cond.eq (.elem (.field (Term.string "TitheHeapModel" 148) "java/lang/String" "value" "[B") (.int (Int32.ofNat j))) (.int (sb_1.getD j 0))).before #[Value.ref b] s = true := fun j hj => hs _ ((by decide +kernel : ∀ j : Nat, j < 12 → Cond.eq (.elem (.field (Term.string "TitheHeapModel" 148) "java/lang/String" "value" "[B") (.int (Int32.ofNat j))) (.int (sb_1.getD j 0)) ∈ _) j hj)
  obtain ⟨aK, aV, h1, h2⟩ := vk_Sof (N := 1) (tm := fun _ => (Term.string "TitheHeapModel" 148)) (len := [12]) (byt := [sb_1]) (A := fun q : Nat => s.heap.size ≤ q)
    (fun i hi => by have e : i = 0 := by omega
                    subst e; decide)
    (fun i hi => hs _ (by decide +kernel)) (fun i hi => hs _ (by decide +kernel)) (fun i hi => hs _ (by decide +kernel))
    (fun i hi => by have e : i = 0 := by omega
                    subst e; exact hs _ (by decide +kernel))
    (fun i hi j hj => by have e : i = 0 := by omega
                         subst e; exact hel j hj)
    (fun i j hi hj hne => absurd (show i = j by omega) hne) hA
  obtain ⟨g1, g2, g3, g4⟩ := h1.1 0 (by decide)
  exact ⟨aK 0, aV 0, vk_R.of (hts _ sw_3) (h2 0 (by decide)), g1, g2, g3, g4⟩
set_option maxHeartbeats 4000000 in
set_option maxRecDepth 100000 in
theorem lw_env {p : Program} {s : State} {m : MethodId} {meth : Method} {c : Code} {b L : Nat} {xs : Nat → Int32} (l : Launch) (C0 : lw_At p s m meth c b L xs) :
    ∃ (D : va_G) (ad : Nat → Nat), mx_Wx (tB l D s.heap.size ad s.heap (mx_tau (fun _ => 0))) p s m #[Value.ref b] c code 4 R_law ∧ mx_Rp (tB l D s.heap.size ad s.heap (mx_tau (fun _ => 0))).2.1.1 s h_0 s.heap := by
  obtain ⟨hx0, hb, hr, hml, hown, hts, hX, hbl, hlocks, hgv⟩ := C0
  obtain ⟨D, hD⟩ := lw_cls hts
  have hs := flat_of_before _ hgv
  have harr : (Cond.arrayOf (.static "TitheHeap$Laws" "NO_LAW" "[I") .int).before #[Value.ref b] s = true := hs _ (by decide +kernel)
  have hlen : (Cond.eq (.length (.static "TitheHeap$Laws" "NO_LAW" "[I")) (.int 0)).before #[Value.ref b] s = true := hs _ (by decide +kernel)
  have hcs : (Cond.eq (.static "java/lang/String" "COMPACT_STRINGS" "Z") (.int 1)).before #[Value.ref b] s = true := hs _ (by decide +kernel)
  have hfm : (Cond.isRef (.static "jdk/internal/util/Preconditions" "SIOOBE_FORMATTER" "Ljava/util/function/BiFunction;")).before #[Value.ref b] s = true := hs _ (by decide +kernel)
  have hA : ∀ a : Nat, a < s.heap.size → ¬ (fun q : Nat => s.heap.size ≤ q) a := fun a ha => Nat.not_le.mpr ha
  obtain ⟨a0, hv, cell, k1, k2, k3, k4, k5, k6, k7⟩ := va_Tof (N := 0) (f := fun _ => .null) (by decide) harr (va_eqt hlen) (fun j hj => absurd hj (Nat.not_lt_zero j)) hA
  obtain ⟨q0, r0, s0⟩ := ls_0 hgv hts
  obtain ⟨q1, r1, s1⟩ := ls_1 hgv hts
  obtain ⟨q2, r2, s2⟩ := ls_2 hgv hts
  obtain ⟨q3, r3, s3⟩ := ls_3 hgv hts
  obtain ⟨fv, hfv, hfr⟩ := Cond.isRef_spec hfm
  obtain ⟨f0, hf0⟩ : ∃ f0 : Nat, fv = .null ∨ fv = .ref f0 := by
    cases fv with
    | null => exact ⟨0, Or.inl rfl⟩
    | ref a => exact ⟨a, Or.inr rfl⟩
    | _ => simp [Value.isRef] at hfr
  obtain ⟨ad, d0, d1, d2, d3, d4, d5, d6, d7, d8, d9⟩ : ∃ ad : Nat → Nat, ad 0 = a0 ∧ ad 4096 = q0 ∧ ad 4097 = r0 ∧ ad 4098 = q1 ∧ ad 4099 = r1 ∧ ad 4100 = q2 ∧ ad 4101 = r2 ∧ ad 4102 = q3 ∧ ad 4103 = r3 ∧ ad 4104 = f0 :=
    ⟨fun k => if k = 4096 then q0 else if k = 4097 then r0 else if k = 4098 then q1 else if k = 4099 then r1 else if k = 4100 then q2 else if k = 4101 then r2 else if k = 4102 then q3 else if k = 4103 then r3 else if k = 4104 then f0 else a0, rfl, rfl, rfl, rfl, rfl, rfl, rfl, rfl, rfl, rfl⟩
  have e0 : ∀ E : mx_E, E.2.2.1 = 1 → E.2.2.2.2.1 = ad → mx_rho E 0 = a0 := fun E h1 h2 => by unfold mx_rho; rw [if_pos (Or.inl (by rw [h1]; decide)), h2, d0]
  refine ⟨D, ad, ⟨hx0, hb, hml, hown, fun w hw => hts w (tsub hw), hD, ?_, ?_, mx_tau_in _, ?_, ?_, ?_, ?_⟩, ?_⟩
  · intro C hC
    have hC : C ∈ tAO := hC
    simp only [tAO, List.mem_cons, List.not_mem_nil, or_false] at hC
    rcases hC with rfl | rfl
    · exact va_AO.of (hts _ aw_0)
    · exact va_AO.of (hts _ aw_1)
  · intro w hw
    have hw : w ∈ tNM := hw
    simp only [tNM, List.mem_cons, List.not_mem_nil, or_false] at hw
    rcases hw with rfl | rfl | rfl | rfl
    · exact va_Nw.of rfl (hts _ nw_0)
    · exact va_Nw.of rfl (hts _ nw_1)
    · exact va_Nw.of rfl (hts _ nw_2)
    · exact va_Nw.of rfl (hts _ nw_3)
  · intro z hz
    have hz : z ∈ tZs := hz
    simp only [tZs, List.mem_cons, List.not_mem_nil, or_false] at hz
    subst hz
    show va_Z "TitheHeap$Laws" "NO_LAW" "[I" (.ref (mx_rho _ 0)) _ _ _
    rw [e0 _ rfl rfl]
    exact va_Zof (hts _ zw_l) (hts _ zw_i) hv hA
  · intro w hw
    have hw : w ∈ tSR := hw
    simp only [tSR, List.mem_cons, List.not_mem_nil, or_false] at hw
    rcases hw with rfl | rfl | rfl | rfl
    · show vk_R _ _ _ (ad 4096) s ∧ va_O _ (ad 4096) _ _ _ ∧ va_OF _ _ _ _ (ad 4096) _ _ _ ∧ va_OF _ _ _ (.ref (ad 4097)) (ad 4096) _ _ _ ∧ va_T _ (ad 4097) _ _ _ _ _
      rw [d1, d2]; exact s0
    · show vk_R _ _ _ (ad 4098) s ∧ va_O _ (ad 4098) _ _ _ ∧ va_OF _ _ _ _ (ad 4098) _ _ _ ∧ va_OF _ _ _ (.ref (ad 4099)) (ad 4098) _ _ _ ∧ va_T _ (ad 4099) _ _ _ _ _
      rw [d3, d4]; exact s1
    · show vk_R _ _ _ (ad 4100) s ∧ va_O _ (ad 4100) _ _ _ ∧ va_OF _ _ _ _ (ad 4100) _ _ _ ∧ va_OF _ _ _ (.ref (ad 4101)) (ad 4100) _ _ _ ∧ va_T _ (ad 4101) _ _ _ _ _
      rw [d5, d6]; exact s2
    · show vk_R _ _ _ (ad 4102) s ∧ va_O _ (ad 4102) _ _ _ ∧ va_OF _ _ _ _ (ad 4102) _ _ _ ∧ va_OF _ _ _ (.ref (ad 4103)) (ad 4102) _ _ _ ∧ va_T _ (ad 4103) _ _ _ _ _
      rw [d7, d8]; exact s3
  · exact va_Zof (hts _ cz_l) (hts _ cz_i) (va_eqt hcs) hA
  · exact ⟨fv, by show fv = .null ∨ fv = .ref (ad 4104); rw [d9]; exact hf0, va_Zof (hts _ pz_l) (hts _ pz_i) hfv hA⟩
  · have ha0 : a0 < s.heap.size := (Array.getElem?_eq_some_iff.mp k1).1
    refine ⟨Nat.le_refl 1, by show 1 ≤ 4096; decide, rfl, fun q hq => rfl, fun k hk => ?_, fun k hk => ?_⟩
    · have hk : k < 1 := hk
      have hk0 : k = 0 := by omega
      subst hk0
      show ad 0 < s.heap.size
      rw [d0]; exact ha0
    · have hk : k < 1 := hk
      have hk0 : k = 0 := by omega
      subst hk0
      rw [h_0_at, e0 _ rfl rfl]
      exact Or.inr ⟨(by intro h; cases h), cell, k1, k2, k3, ⟨k4, k5⟩, by decide, fun j hj => absurd hj (Nat.not_lt_zero j), fun C hC => by cases hC⟩
