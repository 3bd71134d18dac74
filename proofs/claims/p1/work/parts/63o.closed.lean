noncomputable abbrev L0 : mx_A := mx_rep (Value.long 0) 13
noncomputable def L76 (x : Int64) : mx_C := .inr (.long, 385, mx_set 13 L0 0 (.long x))
noncomputable def Z65 (c : Bool) : mx_C := ar 5 (B65 c)
theorem nfZ65 (c : Bool) : nfC (Z65 c) = true := nfB65 c
set_option maxRecDepth 1000000 in
theorem nfL0 : nfT 13 L0 = true := by decide +kernel
theorem peL0 {x : Int64} {tau : Nat → Int64} : mx_pe (L76 x) (sgC tau (L76 x)) := by
  refine Or.inr ⟨.long, 385, _, _, rfl, rfl, fun j hj => ?_⟩
  have j1 : j < 2 ^ 13 := by show j < 8192; omega
  rw [mx_get_map, mx_get_set _ 13 _ 0 j (by decide) j1]
  by_cases a : j = 0
  · rw [if_pos a]; rfl
  · rw [if_neg a, nfv_ok (nfT_ok 13 _ j nfL0)]
theorem k62 (a : Bool) : (Nat.blt (62, H62 a).1 83 && mx_nj (62, H62 a).2) = true := by cases a <;> rfl
theorem z57_28 : mx_get 13 (mx_sl [(1, Value.int 1)] (mx_rep (Value.int 0) 13)) 28 = .int 0 := vq_ok (by decide +kernel)
theorem z57_27 : mx_get 13 (mx_sl [(1, Value.int 1)] (mx_rep (Value.int 0) 13)) 27 = .int 0 := vq_ok (by decide +kernel)
set_option maxRecDepth 1000000 in
theorem q76 : mx_pe zc_76 (L76 0) := (cq_ok (show cq zc_76 (L76 0) = true by decide +kernel)).1
set_option maxRecDepth 1000000 in
theorem q77 : mx_pe zc_77 (L76 0) := (cq_ok (show cq zc_77 (L76 0) = true by decide +kernel)).1
set_option maxRecDepth 1000000 in
theorem q65y : mx_pe zc_65 (Z65 false) := (cq_ok (show cq zc_65 (Z65 false) = true by decide +kernel)).1
section HC
variable {l : Launch} {D : va_G} {b0 : Nat} {ad : Nat → Nat} {Hb : Heap} {tau : Nat → Int64} {h : mx_H} {V : Nat → mx_C}
set_option maxRecDepth 1000000 in
theorem ek_mb_000 : rck 28 196 [.ref 56, .int 0, .int 0, .int 0] 83 62985 [(56, zc_56), (57, zc_57), (61, zc_61), (62, H62 false), (65, Z65 false)] (some (.int 0)) [(56, zc_56), (57, zc_57), (61, zc_61), (62, H62 true), (65, Z65 false)] = true := by decide +kernel
set_option maxRecDepth 1000000 in
theorem ek_mb_001 : rck 28 196 [.ref 56, .int 0, .int 0, .int 0] 83 62985 [(56, zc_56), (57, zc_57), (61, zc_61), (62, H62 false), (65, Z65 true)] (some (.int 0)) [(56, zc_56), (57, zc_57), (61, zc_61), (62, H62 true), (65, Z65 true)] = true := by decide +kernel
set_option maxRecDepth 1000000 in
theorem ek_mb_010 : rck 28 196 [.ref 56, .int 0, .int 0, .int 0] 83 62985 [(56, zc_56), (57, zc_57), (61, zc_61), (62, H62 true), (65, Z65 false)] (some (.int 0)) [(56, zc_56), (57, zc_57), (61, zc_61), (62, H62 true), (65, Z65 false)] = true := by decide +kernel
set_option maxRecDepth 1000000 in
theorem ek_mb_011 : rck 28 196 [.ref 56, .int 0, .int 0, .int 0] 83 62985 [(56, zc_56), (57, zc_57), (61, zc_61), (62, H62 true), (65, Z65 true)] (some (.int 0)) [(56, zc_56), (57, zc_57), (61, zc_61), (62, H62 true), (65, Z65 true)] = true := by decide +kernel
theorem ekb_0 (a c : Bool) : rck 28 196 [.ref 56, .int 0, .int 0, .int 0] 83 62985 [(56, zc_56), (57, zc_57), (61, zc_61), (62, H62 a), (65, Z65 c)] (some (.int 0)) [(56, zc_56), (57, zc_57), (61, zc_61), (62, H62 true), (65, Z65 c)] = true := by
  cases a <;> cases c
  · exact ek_mb_000
  · exact ek_mb_001
  · exact ek_mb_010
  · exact ek_mb_011
theorem mb_0 {a c : Bool} (hY : YH 83 62985 V h) (h56 : V 56 = zc_56) (h57 : V 57 = zc_57) (h61 : V 61 = zc_61) (h62 : V 62 = H62 a) (h65 : V 65 = Z65 c) : ∃ h2, mx_Ca (tB l D b0 ad Hb tau) 28 196 [.ref 56, .int 0, .int 0, .int 0] h (some (.int 0), h2) ∧ YH 83 62985 (upV (upV V 62 (H62 true)) 65 (Z65 c)) h2 := by
  have e56 : (upV (upV V 62 (H62 true)) 65 (Z65 c)) 56 = zc_56 := (up_ne rfl).trans ((up_ne rfl).trans h56)
  have e57 : (upV (upV V 62 (H62 true)) 65 (Z65 c)) 57 = zc_57 := (up_ne rfl).trans ((up_ne rfl).trans h57)
  have e61 : (upV (upV V 62 (H62 true)) 65 (Z65 c)) 61 = zc_61 := (up_ne rfl).trans ((up_ne rfl).trans h61)
  have e62 : (upV (upV V 62 (H62 true)) 65 (Z65 c)) 62 = H62 true := (up_ne rfl).trans up_eq
  have e65 : (upV (upV V 62 (H62 true)) 65 (Z65 c)) 65 = Z65 c := up_eq
  exact YT (fun _ => 0) (upV (upV V 62 (H62 true)) 65 (Z65 c)) (ekb_0 a c) rfl rfl hY ⟨⟨rfl, pe_of h56 nfc_56⟩, ⟨rfl, pe_of h57 nfc_57⟩, ⟨rfl, pe_of h61 nfc_61⟩, ⟨k62 a, pe_of h62 (nfH62 a)⟩, ⟨rfl, pe_of h65 (nfZ65 c)⟩, True.intro⟩ ⟨pe_to e56 nfc_56, pe_to e57 nfc_57, pe_to e61 nfc_61, pe_to e62 (nfH62 true), pe_to e65 (nfZ65 c), True.intro⟩ (fun k hk => (up_no (a := 65) rfl hk).trans (up_no (a := 62) rfl hk))
set_option maxRecDepth 1000000 in
theorem ek_mb_m00 : rck 28 196 [.ref 56, .int 0, .int (-1), .int 0] 83 62985 [(56, zc_56), (57, zc_57), (61, zc_61), (62, H62 false), (65, Z65 false)] (some (.int 0)) [(56, zc_56), (57, zc_57), (61, zc_61), (62, H62 true), (65, Z65 true)] = true := by decide +kernel
set_option maxRecDepth 1000000 in
theorem ek_mb_m01 : rck 28 196 [.ref 56, .int 0, .int (-1), .int 0] 83 62985 [(56, zc_56), (57, zc_57), (61, zc_61), (62, H62 false), (65, Z65 true)] (some (.int 0)) [(56, zc_56), (57, zc_57), (61, zc_61), (62, H62 true), (65, Z65 true)] = true := by decide +kernel
set_option maxRecDepth 1000000 in
theorem ek_mb_m10 : rck 28 196 [.ref 56, .int 0, .int (-1), .int 0] 83 62985 [(56, zc_56), (57, zc_57), (61, zc_61), (62, H62 true), (65, Z65 false)] (some (.int 0)) [(56, zc_56), (57, zc_57), (61, zc_61), (62, H62 true), (65, Z65 true)] = true := by decide +kernel
set_option maxRecDepth 1000000 in
theorem ek_mb_m11 : rck 28 196 [.ref 56, .int 0, .int (-1), .int 0] 83 62985 [(56, zc_56), (57, zc_57), (61, zc_61), (62, H62 true), (65, Z65 true)] (some (.int 0)) [(56, zc_56), (57, zc_57), (61, zc_61), (62, H62 true), (65, Z65 true)] = true := by decide +kernel
theorem ekb_m (a c : Bool) : rck 28 196 [.ref 56, .int 0, .int (-1), .int 0] 83 62985 [(56, zc_56), (57, zc_57), (61, zc_61), (62, H62 a), (65, Z65 c)] (some (.int 0)) [(56, zc_56), (57, zc_57), (61, zc_61), (62, H62 true), (65, Z65 true)] = true := by
  cases a <;> cases c
  · exact ek_mb_m00
  · exact ek_mb_m01
  · exact ek_mb_m10
  · exact ek_mb_m11
theorem mb_m {a c : Bool} (hY : YH 83 62985 V h) (h56 : V 56 = zc_56) (h57 : V 57 = zc_57) (h61 : V 61 = zc_61) (h62 : V 62 = H62 a) (h65 : V 65 = Z65 c) : ∃ h2, mx_Ca (tB l D b0 ad Hb tau) 28 196 [.ref 56, .int 0, .int (-1), .int 0] h (some (.int 0), h2) ∧ YH 83 62985 (upV (upV V 62 (H62 true)) 65 (Z65 true)) h2 := by
  have e56 : (upV (upV V 62 (H62 true)) 65 (Z65 true)) 56 = zc_56 := (up_ne rfl).trans ((up_ne rfl).trans h56)
  have e57 : (upV (upV V 62 (H62 true)) 65 (Z65 true)) 57 = zc_57 := (up_ne rfl).trans ((up_ne rfl).trans h57)
  have e61 : (upV (upV V 62 (H62 true)) 65 (Z65 true)) 61 = zc_61 := (up_ne rfl).trans ((up_ne rfl).trans h61)
  have e62 : (upV (upV V 62 (H62 true)) 65 (Z65 true)) 62 = H62 true := (up_ne rfl).trans up_eq
  have e65 : (upV (upV V 62 (H62 true)) 65 (Z65 true)) 65 = Z65 true := up_eq
  exact YT (fun _ => 0) (upV (upV V 62 (H62 true)) 65 (Z65 true)) (ekb_m a c) rfl rfl hY ⟨⟨rfl, pe_of h56 nfc_56⟩, ⟨rfl, pe_of h57 nfc_57⟩, ⟨rfl, pe_of h61 nfc_61⟩, ⟨k62 a, pe_of h62 (nfH62 a)⟩, ⟨rfl, pe_of h65 (nfZ65 c)⟩, True.intro⟩ ⟨pe_to e56 nfc_56, pe_to e57 nfc_57, pe_to e61 nfc_61, pe_to e62 (nfH62 true), pe_to e65 (nfZ65 true), True.intro⟩ (fun k hk => (up_no (a := 65) rfl hk).trans (up_no (a := 62) rfl hk))
set_option maxRecDepth 1000000 in
theorem nf3_56 : (Nat.blt (56, zc_56).1 83 && (mx_nj (56, zc_56).2 && nfC (56, zc_56).2)) = true := by decide +kernel
set_option maxRecDepth 1000000 in
theorem nf3_57 : (Nat.blt (57, zc_57).1 83 && (mx_nj (57, zc_57).2 && nfC (57, zc_57).2)) = true := by decide +kernel
set_option maxRecDepth 1000000 in
theorem nf3_61 : (Nat.blt (61, zc_61).1 83 && (mx_nj (61, zc_61).2 && nfC (61, zc_61).2)) = true := by decide +kernel
set_option maxRecDepth 1000000 in
theorem ek_mi28 : rck 28 191 [.ref 56, .int 0] 83 62985 [(56, zc_56), (61, zc_61)] (some (.int 1)) [(56, zc_56), (61, zc_61)] = true := by decide +kernel
theorem mi_28 (hY : YH 83 62985 V h) (h56 : V 56 = zc_56) (h61 : V 61 = zc_61) : ∃ h2, mx_Ca (tB l D b0 ad Hb tau) 28 191 [.ref 56, .int 0] h (some (.int 1), h2) ∧ YH 83 62985 V h2 := YT0 ek_mi28 rfl rfl hY ⟨⟨nf3_56, h56⟩, ⟨nf3_61, h61⟩, True.intro⟩
set_option maxRecDepth 1000000 in
theorem ek_bm28 : rck 28 243 [.ref 56] 83 62985 [(56, zc_56), (57, zc_57), (76, L76 0), (77, L76 0)] none [(56, zc_56), (57, zc_57), (76, L76 1), (77, L76 0)] = true := by decide +kernel
theorem bm_28 (hY : YH 83 62985 V h) (h56 : V 56 = zc_56) (h57 : V 57 = zc_57) (h76 : V 76 = L76 0) (h77 : V 77 = L76 0) : ∃ h2, mx_Ca (tB l D b0 ad Hb tau) 28 243 [.ref 56] h (none, h2) ∧ YH 83 62985 (upV (upV V 76 (L76 1)) 77 (L76 0)) h2 := by
  have e56 : (upV (upV V 76 (L76 1)) 77 (L76 0)) 56 = zc_56 := (up_ne rfl).trans ((up_ne rfl).trans h56)
  have e57 : (upV (upV V 76 (L76 1)) 77 (L76 0)) 57 = zc_57 := (up_ne rfl).trans ((up_ne rfl).trans h57)
  have e76 : (upV (upV V 76 (L76 1)) 77 (L76 0)) 76 = L76 1 := (up_ne rfl).trans up_eq
  have e77 : (upV (upV V 76 (L76 1)) 77 (L76 0)) 77 = L76 0 := up_eq
  exact YT (fun _ => 0) (upV (upV V 76 (L76 1)) 77 (L76 0)) ek_bm28 rfl rfl hY ⟨⟨rfl, pe_of h56 nfc_56⟩, ⟨rfl, pe_of h57 nfc_57⟩, ⟨rfl, pe_eql h76 peL0⟩, ⟨rfl, pe_eql h77 peL0⟩, True.intro⟩ ⟨pe_to e56 nfc_56, pe_to e57 nfc_57, (pe_eql e76 peL0).symm, (pe_eql e77 peL0).symm, True.intro⟩ (fun k hk => (up_no (a := 77) rfl hk).trans (up_no (a := 76) rfl hk))
set_option maxRecDepth 1000000 in
theorem ek_mi29 : rck 29 191 [.ref 56, .int 0] 83 62985 [(56, zc_56), (61, zc_61)] (some (.int 1)) [(56, zc_56), (61, zc_61)] = true := by decide +kernel
theorem mi_29 (hY : YH 83 62985 V h) (h56 : V 56 = zc_56) (h61 : V 61 = zc_61) : ∃ h2, mx_Ca (tB l D b0 ad Hb tau) 29 191 [.ref 56, .int 0] h (some (.int 1), h2) ∧ YH 83 62985 V h2 := YT0 ek_mi29 rfl rfl hY ⟨⟨nf3_56, h56⟩, ⟨nf3_61, h61⟩, True.intro⟩
set_option maxRecDepth 1000000 in
theorem ek_si : rck 29 190 [.ref 56, .int 0, .int 0] 83 62985 [(56, zc_56), (61, zc_61)] (some (.int 1)) [(56, zc_56), (61, zc_61)] = true := by decide +kernel
theorem si_29 (hY : YH 83 62985 V h) (h56 : V 56 = zc_56) (h61 : V 61 = zc_61) : ∃ h2, mx_Ca (tB l D b0 ad Hb tau) 29 190 [.ref 56, .int 0, .int 0] h (some (.int 1), h2) ∧ YH 83 62985 V h2 := YT0 ek_si rfl rfl hY ⟨⟨nf3_56, h56⟩, ⟨nf3_61, h61⟩, True.intro⟩
def accf : Nat → Int64 → Int64 → Int64
  | 0, y, _ => y
  | r + 1, y, x => accf r (y + x) x
def pw : Nat → Int64
  | 0 => 1
  | i + 1 => accf 10 0 (pw i)
set_option maxRecDepth 100000 in
theorem pw_pos : ∀ i, i < 8 → ¬ lg_cmp (pw i) 0 ≤ 0 := by decide +kernel
set_option maxRecDepth 1000000 in
theorem ek_wo : ∀ n, n < 8 → rck 29 272 [.int (nI n)] 83 62985 [] (some (.long (pw n))) [] = true := by decide +kernel
set_option maxRecDepth 1000000 in
theorem ek_po : ∀ n, n < 8 → ∀ w, w < 2 → rck 29 274 [.long (0 + pw n), .long (pw n), .int (nI w)] 83 62985 [] (some (.int 1)) [] = true ∧ rck 29 274 [.long (0 + pw n * (1 : Int32).toInt64), .long (pw n), .int (nI w)] 83 62985 [] (some (.int 1)) [] = true := by decide +kernel
theorem wo_29 {n : Nat} (hn : n < 8) (hY : YH 83 62985 V h) : ∃ h2, mx_Ca (tB l D b0 ad Hb tau) 29 272 [.int (nI n)] h (some (.long (pw n)), h2) ∧ YH 83 62985 V h2 := YT0 (ek_wo n hn) rfl rfl hY True.intro
theorem po_29 {n w : Nat} (hn : n < 8) (hw : w < 2) (hY : YH 83 62985 V h) : ∃ h2, mx_Ca (tB l D b0 ad Hb tau) 29 274 [.long (0 + pw n), .long (pw n), .int (nI w)] h (some (.int 1), h2) ∧ YH 83 62985 V h2 := YT0 (ek_po n hn w hw).1 rfl rfl hY True.intro
theorem pm_29 {n w : Nat} (hn : n < 8) (hw : w < 2) (hY : YH 83 62985 V h) : ∃ h2, mx_Ca (tB l D b0 ad Hb tau) 29 274 [.long (0 + pw n * (1 : Int32).toInt64), .long (pw n), .int (nI w)] h (some (.int 1), h2) ∧ YH 83 62985 V h2 := YT0 (ek_po n hn w hw).2 rfl rfl hY True.intro
set_option maxRecDepth 1000000 in
theorem ek_it : ∀ i, i < 7 → rck 28 244 [.ref 56] 83 62985 [(56, zc_56), (76, L76 (pw i)), (77, L76 (pw (i + 1)))] none [(56, zc_56), (76, L76 (pw (i + 1))), (77, L76 0)] = true := by decide +kernel
theorem it_28 {i : Nat} (hi : i < 7) (hY : YH 83 62985 V h) (h56 : V 56 = zc_56) (h76 : V 76 = L76 (pw i)) (h77 : V 77 = L76 (pw (i + 1))) : ∃ h2, mx_Ca (tB l D b0 ad Hb tau) 28 244 [.ref 56] h (none, h2) ∧ YH 83 62985 (upV (upV V 76 (L76 (pw (i + 1)))) 77 (L76 0)) h2 := by
  have e56 : (upV (upV V 76 (L76 (pw (i + 1)))) 77 (L76 0)) 56 = zc_56 := (up_ne rfl).trans ((up_ne rfl).trans h56)
  have e76 : (upV (upV V 76 (L76 (pw (i + 1)))) 77 (L76 0)) 76 = L76 (pw (i + 1)) := (up_ne rfl).trans up_eq
  have e77 : (upV (upV V 76 (L76 (pw (i + 1)))) 77 (L76 0)) 77 = L76 0 := up_eq
  exact YT (fun _ => 0) (upV (upV V 76 (L76 (pw (i + 1)))) 77 (L76 0)) (ek_it i hi) rfl rfl hY ⟨⟨rfl, pe_of h56 nfc_56⟩, ⟨rfl, pe_eql h76 peL0⟩, ⟨rfl, pe_eql h77 peL0⟩, True.intro⟩ ⟨pe_to e56 nfc_56, (pe_eql e76 peL0).symm, (pe_eql e77 peL0).symm, True.intro⟩ (fun k hk => (up_no (a := 77) rfl hk).trans (up_no (a := 76) rfl hk))
end HC
