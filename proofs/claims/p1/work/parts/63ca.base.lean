noncomputable def ovW (W : mx_C) (p : List (Nat × mx_C)) (k : Nat) : mx_C := List.rec (motive := fun _ => mx_C) W (fun q _ c => bif Nat.beq q.1 k then q.2 else c) p
noncomputable def VB : Nat → mx_C := fun k => ovW (mx_get 9 h_4.2.2 k) LB k
theorem ovB : ∀ {p : List (Nat × mx_C)} {k : Nat} {W : mx_C}, (∀ q ∈ p, q.1 = k → mx_pe W q.2) → mx_pe W (ovW W p k)
  | [], _, _, _ => Or.inl rfl
  | q :: p, k, W, h => by
    show mx_pe W (bif Nat.beq q.1 k then q.2 else ovW W p k)
    cases hb : Nat.beq q.1 k with
    | true => exact h q List.mem_cons_self (Nat.eq_of_beq_eq_true hb)
    | false => exact ovB (p := p) (fun q hq => h q (List.mem_cons_of_mem _ hq))
theorem YB : YH 83 62985 VB h_4 := by
  obtain ⟨h1, h2⟩ := h4b
  refine ⟨ok_all.2.1, h2, by decide, fun k _ => ?_⟩
  refine ovB (p := LB) (k := k) (W := mx_get 9 h_4.2.2 k) (fun q hq e => ?_)
  have := List.all_eq_true.mp h1 q hq
  rw [e] at this
  exact (cq_ok this).1
theorem vb_0 : VB 0 = zc_0 := rfl
theorem vb_1 : VB 1 = zc_1 := rfl
theorem vb_7 : VB 7 = zc_7 := rfl
theorem vb_8 : VB 8 = zc_8 := rfl
theorem vb_9 : VB 9 = zc_9 := rfl
theorem vb_10 : VB 10 = zc_10 := rfl
theorem vb_12 : VB 12 = zc_12 := rfl
theorem vb_14 : VB 14 = zc_14 := rfl
theorem vb_16 : VB 16 = zc_16 := rfl
theorem vb_17 : VB 17 = zc_17 := rfl
theorem vb_19 : VB 19 = zc_19 := rfl
theorem vb_36 : VB 36 = zc_36 := rfl
theorem vb_37 : VB 37 = zc_37 := rfl
theorem vb_38 : VB 38 = zc_38 := rfl
theorem vb_40 : VB 40 = zc_40 := rfl
theorem vb_41 : VB 41 = zc_41 := rfl
theorem vb_42 : VB 42 = zc_42 := rfl
theorem vb_56 : VB 56 = zc_56 := rfl
theorem vb_57 : VB 57 = zc_57 := rfl
theorem vb_61 : VB 61 = zc_61 := rfl
theorem vb_62 : VB 62 = zc_62 := rfl
theorem vb_65 : VB 65 = zc_65 := rfl
theorem vb_66 : VB 66 = zc_66 := rfl
set_option maxRecDepth 1000000 in
theorem nf_0 : (Nat.blt (0, zc_0).1 84 && (mx_nj (0, zc_0).2 && nfC (0, zc_0).2)) = true := by decide +kernel
set_option maxRecDepth 1000000 in
theorem nfc_0 : nfC zc_0 = true := by decide +kernel
set_option maxRecDepth 1000000 in
theorem nf_1 : (Nat.blt (1, zc_1).1 84 && (mx_nj (1, zc_1).2 && nfC (1, zc_1).2)) = true := by decide +kernel
set_option maxRecDepth 1000000 in
theorem nfc_1 : nfC zc_1 = true := by decide +kernel
set_option maxRecDepth 1000000 in
theorem nf_7 : (Nat.blt (7, zc_7).1 84 && (mx_nj (7, zc_7).2 && nfC (7, zc_7).2)) = true := by decide +kernel
set_option maxRecDepth 1000000 in
theorem nfc_7 : nfC zc_7 = true := by decide +kernel
set_option maxRecDepth 1000000 in
theorem nf_8 : (Nat.blt (8, zc_8).1 84 && (mx_nj (8, zc_8).2 && nfC (8, zc_8).2)) = true := by decide +kernel
set_option maxRecDepth 1000000 in
theorem nfc_8 : nfC zc_8 = true := by decide +kernel
set_option maxRecDepth 1000000 in
theorem nf_9 : (Nat.blt (9, zc_9).1 84 && (mx_nj (9, zc_9).2 && nfC (9, zc_9).2)) = true := by decide +kernel
set_option maxRecDepth 1000000 in
theorem nfc_9 : nfC zc_9 = true := by decide +kernel
set_option maxRecDepth 1000000 in
theorem nf_10 : (Nat.blt (10, zc_10).1 84 && (mx_nj (10, zc_10).2 && nfC (10, zc_10).2)) = true := by decide +kernel
set_option maxRecDepth 1000000 in
theorem nfc_10 : nfC zc_10 = true := by decide +kernel
set_option maxRecDepth 1000000 in
theorem nf_36 : (Nat.blt (36, zc_36).1 84 && (mx_nj (36, zc_36).2 && nfC (36, zc_36).2)) = true := by decide +kernel
set_option maxRecDepth 1000000 in
theorem nfc_36 : nfC zc_36 = true := by decide +kernel
set_option maxRecDepth 1000000 in
theorem nf_37 : (Nat.blt (37, zc_37).1 84 && (mx_nj (37, zc_37).2 && nfC (37, zc_37).2)) = true := by decide +kernel
set_option maxRecDepth 1000000 in
theorem nfc_37 : nfC zc_37 = true := by decide +kernel
set_option maxRecDepth 1000000 in
theorem nf_40 : (Nat.blt (40, zc_40).1 84 && (mx_nj (40, zc_40).2 && nfC (40, zc_40).2)) = true := by decide +kernel
set_option maxRecDepth 1000000 in
theorem nfc_40 : nfC zc_40 = true := by decide +kernel
set_option maxRecDepth 1000000 in
theorem nf_41 : (Nat.blt (41, zc_41).1 84 && (mx_nj (41, zc_41).2 && nfC (41, zc_41).2)) = true := by decide +kernel
set_option maxRecDepth 1000000 in
theorem nfc_41 : nfC zc_41 = true := by decide +kernel
set_option maxRecDepth 1000000 in
theorem nf_56 : (Nat.blt (56, zc_56).1 84 && (mx_nj (56, zc_56).2 && nfC (56, zc_56).2)) = true := by decide +kernel
set_option maxRecDepth 1000000 in
theorem nfc_56 : nfC zc_56 = true := by decide +kernel
set_option maxRecDepth 1000000 in
theorem nf_57 : (Nat.blt (57, zc_57).1 84 && (mx_nj (57, zc_57).2 && nfC (57, zc_57).2)) = true := by decide +kernel
set_option maxRecDepth 1000000 in
theorem nfc_57 : nfC zc_57 = true := by decide +kernel
set_option maxRecDepth 1000000 in
theorem nf_61 : (Nat.blt (61, zc_61).1 84 && (mx_nj (61, zc_61).2 && nfC (61, zc_61).2)) = true := by decide +kernel
set_option maxRecDepth 1000000 in
theorem nfc_61 : nfC zc_61 = true := by decide +kernel
set_option maxRecDepth 1000000 in
theorem nf_62 : (Nat.blt (62, zc_62).1 84 && (mx_nj (62, zc_62).2 && nfC (62, zc_62).2)) = true := by decide +kernel
set_option maxRecDepth 1000000 in
theorem nfc_62 : nfC zc_62 = true := by decide +kernel
set_option maxRecDepth 1000000 in
theorem nf_65 : (Nat.blt (65, zc_65).1 84 && (mx_nj (65, zc_65).2 && nfC (65, zc_65).2)) = true := by decide +kernel
set_option maxRecDepth 1000000 in
theorem nfc_65 : nfC zc_65 = true := by decide +kernel
set_option maxRecDepth 1000000 in
theorem nf_66 : (Nat.blt (66, zc_66).1 84 && (mx_nj (66, zc_66).2 && nfC (66, zc_66).2)) = true := by decide +kernel
set_option maxRecDepth 1000000 in
theorem nfc_66 : nfC zc_66 = true := by decide +kernel
