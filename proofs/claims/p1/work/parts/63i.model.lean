noncomputable abbrev O56 (x : Int32) : mx_C := .inl (12, [.int 0, .ref 57, .ref 58, .ref 59, .ref 60, .int 0, .int 0, .int 0, .int 0, .int 0, .int 0, .int 0, .int 0, .int 0, .int (-1), .ref 61, .ref 62, .ref 63, .int 1, .ref 64, .ref 65, .ref 66, .int 0, .int x, .ref 67, .ref 68, .ref 69, .ref 70, .ref 71, .ref 72, .int 0, .int 0, .ref 73, .ref 74, .ref 75, .ref 76, .ref 77, .ref 78, .ref 79, .ref 80, .ref 81, .ref 82])
noncomputable abbrev O56s : mx_C := .inl (12, [.int 0, .ref 57, .ref 58, .ref 59, .ref 60, .int 0, .int 0, .int 0, .int 0, .int 0, .int 0, .int 0, .int 0, .int 0, .int (-1), .ref 61, .ref 62, .ref 63, .int 1, .ref 64, .ref 65, .ref 66, .int 0, .float 10, .ref 67, .ref 68, .ref 69, .ref 70, .ref 71, .ref 72, .int 0, .int 0, .ref 73, .ref 74, .ref 75, .ref 76, .ref 77, .ref 78, .ref 79, .ref 80, .ref 81, .ref 82])
noncomputable def T57 : mx_A := mx_sl [(1, Value.int 1)] (mx_rep (Value.int 0) 13)
noncomputable def A57 (s mc : Int32) : mx_C := ar 2886 (mx_set 13 (mx_set 13 T57 28 (.int s)) 29 (.int mc))
noncomputable def A57s : mx_C := ar 2886 (mx_set 13 (mx_set 13 T57 28 (.float 8)) 29 (.float 9))
noncomputable def H62 (a : Bool) : mx_C := bif a then .inr (.int, 20, mx_sl [(0, Value.int 1)] (mx_rep (Value.int 0) 13)) else zc_62
noncomputable def B65 (c : Bool) : mx_A := bif c then mx_sl [(0, Value.int 1), (2, Value.int 1), (3, Value.int 1)] (mx_rep (Value.int 0) 13) else mx_rep (Value.int 0) 13
noncomputable def W65 (c : Bool) (w : Int32) : mx_C := ar 5 (mx_set 13 (B65 c) 4 (.int w))
noncomputable def W65s (c : Bool) (t : UInt32) : mx_C := ar 5 (mx_set 13 (B65 c) 4 (.float t))
set_option maxRecDepth 1000000 in
theorem nf57 : nfT 13 T57 = true := by decide +kernel
set_option maxRecDepth 1000000 in
theorem nfB65 (c : Bool) : nfT 13 (B65 c) = true := by cases c <;> decide +kernel
set_option maxRecDepth 1000000 in
theorem nfH62 (a : Bool) : nfC (H62 a) = true := by cases a <;> decide +kernel
theorem g57 : mx_get 13 T57 27 = .int 0 := vq_ok (by decide +kernel)
theorem pe56 {x : Int32} {val : Nat → Int64} (h : val 2 = x.toInt64) : mx_pe (O56 x) (sgC (tS val) O56s) := by
  refine Or.inl ?_
  show (.inl (12, [.int 0, .ref 57, .ref 58, .ref 59, .ref 60, .int 0, .int 0, .int 0, .int 0, .int 0, .int 0, .int 0, .int 0, .int 0, .int (-1), .ref 61, .ref 62, .ref 63, .int 1, .ref 64, .ref 65, .ref 66, .int 0, .int x, .ref 67, .ref 68, .ref 69, .ref 70, .ref 71, .ref 72, .int 0, .int 0, .ref 73, .ref 74, .ref 75, .ref 76, .ref 77, .ref 78, .ref 79, .ref 80, .ref 81, .ref 82]) : mx_C) = .inl (12, [.int 0, .ref 57, .ref 58, .ref 59, .ref 60, .int 0, .int 0, .int 0, .int 0, .int 0, .int 0, .int 0, .int 0, .int 0, .int (-1), .ref 61, .ref 62, .ref 63, .int 1, .ref 64, .ref 65, .ref 66, .int 0, sg (tS val) (.float 10), .ref 67, .ref 68, .ref 69, .ref 70, .ref 71, .ref 72, .int 0, .int 0, .ref 73, .ref 74, .ref 75, .ref 76, .ref 77, .ref 78, .ref 79, .ref 80, .ref 81, .ref 82])
  rw [sg_f (i := 2) rfl (by decide), h, i32_64]
theorem pe57 {s mc : Int32} {val : Nat → Int64} (h0 : val 0 = s.toInt64) (h1 : val 1 = mc.toInt64) : mx_pe (A57 s mc) (sgC (tS val) A57s) := by
  refine Or.inr ⟨.int, 2886, _, _, rfl, rfl, fun j hj => ?_⟩
  have j1 : j < 2 ^ 13 := by show j < 8192; omega
  rw [mx_get_map, mx_get_set _ 13 _ 29 j (by decide) j1, mx_get_set _ 13 _ 28 j (by decide) j1, mx_get_set _ 13 _ 29 j (by decide) j1, mx_get_set _ 13 _ 28 j (by decide) j1]
  by_cases a : j = 29
  · rw [if_pos a, if_pos a, sg_f (i := 1) rfl (by decide), h1, i32_64]
  · rw [if_neg a, if_neg a]
    by_cases b : j = 28
    · rw [if_pos b, if_pos b, sg_f (i := 0) rfl (by decide), h0, i32_64]
    · rw [if_neg b, if_neg b, nfv_ok (nfT_ok 13 T57 j nf57)]
theorem pe65 {c : Bool} {w : Int32} {t : UInt32} {i : Nat} {val : Nat → Int64} (ht : t.toNat = 8 + i) (hi : i < 464) (h : val i = w.toInt64) : mx_pe (W65 c w) (sgC (tS val) (W65s c t)) := by
  refine Or.inr ⟨.int, 5, _, _, rfl, rfl, fun j hj => ?_⟩
  have j1 : j < 2 ^ 13 := by show j < 8192; omega
  rw [mx_get_map, mx_get_set _ 13 _ 4 j (by decide) j1, mx_get_set _ 13 _ 4 j (by decide) j1]
  by_cases a : j = 4
  · rw [if_pos a, if_pos a, sg_f ht hi, h, i32_64]
  · rw [if_neg a, if_neg a, nfv_ok (nfT_ok 13 _ j (nfB65 c))]
def PM (V : Nat → mx_C) (x : Int32) : Prop := ∃ s mc w a c, V 56 = O56 x ∧ V 57 = A57 s mc ∧ V 61 = zc_61 ∧ V 62 = H62 a ∧ V 65 = W65 c w ∧ V 66 = zc_66
theorem YH.re {n s a : Nat} {V : Nat → mx_C} {h : mx_H} {c c2 : mx_C} (hY : YH n s (upV V a c) h) (hp : mx_pe c c2) : YH n s (upV V a c2) h := by
  refine hY.mono (fun k _ => ?_)
  show mx_pe (bif Nat.beq k a then c else V k) (bif Nat.beq k a then c2 else V k)
  cases Nat.beq k a
  · exact Or.inl rfl
  · exact hp
section MC
variable {l : Launch} {D : va_G} {b0 : Nat} {ad : Nat → Nat} {Hb : Heap} {tau : Nat → Int64} {h : mx_H} {V : Nat → mx_C}
set_option maxRecDepth 1000000 in
theorem ek_wn_0 : rck 29 217 [.ref 56, .long 0] 84 62986 [(56, O56s), (57, A57s), (61, zc_61)] (some (.int 0)) [(56, O56s), (57, A57s), (61, zc_61)] = true := by decide +kernel
theorem wn_0 {s mc x : Int32} (hY : YH 84 62986 V h) (h56 : V 56 = O56 x) (h57 : V 57 = A57 s mc) (h61 : V 61 = zc_61) : ∃ h2, mx_Ca (tB l D b0 ad Hb tau) 29 217 [.ref 56, .long 0] h (some (.int 0), h2) ∧ YH 84 62986 V h2 :=
  YT (fun i => if i = 0 then s.toInt64 else if i = 1 then mc.toInt64 else x.toInt64) V ek_wn_0 rfl rfl hY ⟨⟨rfl, pe_eql h56 (pe56 rfl)⟩, ⟨rfl, pe_eql h57 (pe57 rfl rfl)⟩, ⟨rfl, pe_of h61 nfc_61⟩, True.intro⟩ ⟨(pe_eql h56 (pe56 rfl)).symm, (pe_eql h57 (pe57 rfl rfl)).symm, pe_to h61 nfc_61, True.intro⟩ (fun _ _ => rfl)
set_option maxRecDepth 1000000 in
theorem ek_wn_1 : rck 29 217 [.ref 56, .long 1] 84 62986 [(56, O56s), (57, A57s), (61, zc_61)] (some (.int 0)) [(56, O56s), (57, A57s), (61, zc_61)] = true := by decide +kernel
theorem wn_1 {s mc x : Int32} (hY : YH 84 62986 V h) (h56 : V 56 = O56 x) (h57 : V 57 = A57 s mc) (h61 : V 61 = zc_61) : ∃ h2, mx_Ca (tB l D b0 ad Hb tau) 29 217 [.ref 56, .long 1] h (some (.int 0), h2) ∧ YH 84 62986 V h2 :=
  YT (fun i => if i = 0 then s.toInt64 else if i = 1 then mc.toInt64 else x.toInt64) V ek_wn_1 rfl rfl hY ⟨⟨rfl, pe_eql h56 (pe56 rfl)⟩, ⟨rfl, pe_eql h57 (pe57 rfl rfl)⟩, ⟨rfl, pe_of h61 nfc_61⟩, True.intro⟩ ⟨(pe_eql h56 (pe56 rfl)).symm, (pe_eql h57 (pe57 rfl rfl)).symm, pe_to h61 nfc_61, True.intro⟩ (fun _ _ => rfl)
set_option maxRecDepth 1000000 in
theorem ek_wn_2 : rck 29 217 [.ref 56, .long 2] 84 62986 [(56, O56s), (57, A57s), (61, zc_61)] (some (.int 2)) [(56, O56s), (57, A57s), (61, zc_61)] = true := by decide +kernel
theorem wn_2 {s mc x : Int32} (hY : YH 84 62986 V h) (h56 : V 56 = O56 x) (h57 : V 57 = A57 s mc) (h61 : V 61 = zc_61) : ∃ h2, mx_Ca (tB l D b0 ad Hb tau) 29 217 [.ref 56, .long 2] h (some (.int 2), h2) ∧ YH 84 62986 V h2 :=
  YT (fun i => if i = 0 then s.toInt64 else if i = 1 then mc.toInt64 else x.toInt64) V ek_wn_2 rfl rfl hY ⟨⟨rfl, pe_eql h56 (pe56 rfl)⟩, ⟨rfl, pe_eql h57 (pe57 rfl rfl)⟩, ⟨rfl, pe_of h61 nfc_61⟩, True.intro⟩ ⟨(pe_eql h56 (pe56 rfl)).symm, (pe_eql h57 (pe57 rfl rfl)).symm, pe_to h61 nfc_61, True.intro⟩ (fun _ _ => rfl)
set_option maxRecDepth 1000000 in
theorem ek_wn_3 : rck 29 217 [.ref 56, .long 3] 84 62986 [(56, O56s), (57, A57s), (61, zc_61)] (some (.int 2)) [(56, O56s), (57, A57s), (61, zc_61)] = true := by decide +kernel
theorem wn_3 {s mc x : Int32} (hY : YH 84 62986 V h) (h56 : V 56 = O56 x) (h57 : V 57 = A57 s mc) (h61 : V 61 = zc_61) : ∃ h2, mx_Ca (tB l D b0 ad Hb tau) 29 217 [.ref 56, .long 3] h (some (.int 2), h2) ∧ YH 84 62986 V h2 :=
  YT (fun i => if i = 0 then s.toInt64 else if i = 1 then mc.toInt64 else x.toInt64) V ek_wn_3 rfl rfl hY ⟨⟨rfl, pe_eql h56 (pe56 rfl)⟩, ⟨rfl, pe_eql h57 (pe57 rfl rfl)⟩, ⟨rfl, pe_of h61 nfc_61⟩, True.intro⟩ ⟨(pe_eql h56 (pe56 rfl)).symm, (pe_eql h57 (pe57 rfl rfl)).symm, pe_to h61 nfc_61, True.intro⟩ (fun _ _ => rfl)
set_option maxRecDepth 1000000 in
theorem ek_wn_4 : rck 29 217 [.ref 56, .long 4] 84 62986 [(56, O56s), (57, A57s), (61, zc_61)] (some (.int 2)) [(56, O56s), (57, A57s), (61, zc_61)] = true := by decide +kernel
theorem wn_4 {s mc x : Int32} (hY : YH 84 62986 V h) (h56 : V 56 = O56 x) (h57 : V 57 = A57 s mc) (h61 : V 61 = zc_61) : ∃ h2, mx_Ca (tB l D b0 ad Hb tau) 29 217 [.ref 56, .long 4] h (some (.int 2), h2) ∧ YH 84 62986 V h2 :=
  YT (fun i => if i = 0 then s.toInt64 else if i = 1 then mc.toInt64 else x.toInt64) V ek_wn_4 rfl rfl hY ⟨⟨rfl, pe_eql h56 (pe56 rfl)⟩, ⟨rfl, pe_eql h57 (pe57 rfl rfl)⟩, ⟨rfl, pe_of h61 nfc_61⟩, True.intro⟩ ⟨(pe_eql h56 (pe56 rfl)).symm, (pe_eql h57 (pe57 rfl rfl)).symm, pe_to h61 nfc_61, True.intro⟩ (fun _ _ => rfl)
set_option maxRecDepth 1000000 in
theorem ek_wn_5 : rck 29 217 [.ref 56, .long 5] 84 62986 [(56, O56s), (57, A57s), (61, zc_61)] (some (.int 2)) [(56, O56s), (57, A57s), (61, zc_61)] = true := by decide +kernel
theorem wn_5 {s mc x : Int32} (hY : YH 84 62986 V h) (h56 : V 56 = O56 x) (h57 : V 57 = A57 s mc) (h61 : V 61 = zc_61) : ∃ h2, mx_Ca (tB l D b0 ad Hb tau) 29 217 [.ref 56, .long 5] h (some (.int 2), h2) ∧ YH 84 62986 V h2 :=
  YT (fun i => if i = 0 then s.toInt64 else if i = 1 then mc.toInt64 else x.toInt64) V ek_wn_5 rfl rfl hY ⟨⟨rfl, pe_eql h56 (pe56 rfl)⟩, ⟨rfl, pe_eql h57 (pe57 rfl rfl)⟩, ⟨rfl, pe_of h61 nfc_61⟩, True.intro⟩ ⟨(pe_eql h56 (pe56 rfl)).symm, (pe_eql h57 (pe57 rfl rfl)).symm, pe_to h61 nfc_61, True.intro⟩ (fun _ _ => rfl)
set_option maxRecDepth 1000000 in
theorem ek_wn_6 : rck 29 217 [.ref 56, .long 6] 84 62986 [(56, O56s), (57, A57s), (61, zc_61)] (some (.int 2)) [(56, O56s), (57, A57s), (61, zc_61)] = true := by decide +kernel
theorem wn_6 {s mc x : Int32} (hY : YH 84 62986 V h) (h56 : V 56 = O56 x) (h57 : V 57 = A57 s mc) (h61 : V 61 = zc_61) : ∃ h2, mx_Ca (tB l D b0 ad Hb tau) 29 217 [.ref 56, .long 6] h (some (.int 2), h2) ∧ YH 84 62986 V h2 :=
  YT (fun i => if i = 0 then s.toInt64 else if i = 1 then mc.toInt64 else x.toInt64) V ek_wn_6 rfl rfl hY ⟨⟨rfl, pe_eql h56 (pe56 rfl)⟩, ⟨rfl, pe_eql h57 (pe57 rfl rfl)⟩, ⟨rfl, pe_of h61 nfc_61⟩, True.intro⟩ ⟨(pe_eql h56 (pe56 rfl)).symm, (pe_eql h57 (pe57 rfl rfl)).symm, pe_to h61 nfc_61, True.intro⟩ (fun _ _ => rfl)
set_option maxRecDepth 1000000 in
theorem ek_wn_7 : rck 29 217 [.ref 56, .long 7] 84 62986 [(56, O56s), (57, A57s), (61, zc_61)] (some (.int 2)) [(56, O56s), (57, A57s), (61, zc_61)] = true := by decide +kernel
theorem wn_7 {s mc x : Int32} (hY : YH 84 62986 V h) (h56 : V 56 = O56 x) (h57 : V 57 = A57 s mc) (h61 : V 61 = zc_61) : ∃ h2, mx_Ca (tB l D b0 ad Hb tau) 29 217 [.ref 56, .long 7] h (some (.int 2), h2) ∧ YH 84 62986 V h2 :=
  YT (fun i => if i = 0 then s.toInt64 else if i = 1 then mc.toInt64 else x.toInt64) V ek_wn_7 rfl rfl hY ⟨⟨rfl, pe_eql h56 (pe56 rfl)⟩, ⟨rfl, pe_eql h57 (pe57 rfl rfl)⟩, ⟨rfl, pe_of h61 nfc_61⟩, True.intro⟩ ⟨(pe_eql h56 (pe56 rfl)).symm, (pe_eql h57 (pe57 rfl rfl)).symm, pe_to h61 nfc_61, True.intro⟩ (fun _ _ => rfl)
set_option maxRecDepth 1000000 in
theorem ek_wn_20 : rck 29 217 [.ref 56, .long 20] 84 62986 [(56, O56s), (57, A57s), (61, zc_61)] (some (.int 0)) [(56, O56s), (57, A57s), (61, zc_61)] = true := by decide +kernel
theorem wn_20 {s mc x : Int32} (hY : YH 84 62986 V h) (h56 : V 56 = O56 x) (h57 : V 57 = A57 s mc) (h61 : V 61 = zc_61) : ∃ h2, mx_Ca (tB l D b0 ad Hb tau) 29 217 [.ref 56, .long 20] h (some (.int 0), h2) ∧ YH 84 62986 V h2 :=
  YT (fun i => if i = 0 then s.toInt64 else if i = 1 then mc.toInt64 else x.toInt64) V ek_wn_20 rfl rfl hY ⟨⟨rfl, pe_eql h56 (pe56 rfl)⟩, ⟨rfl, pe_eql h57 (pe57 rfl rfl)⟩, ⟨rfl, pe_of h61 nfc_61⟩, True.intro⟩ ⟨(pe_eql h56 (pe56 rfl)).symm, (pe_eql h57 (pe57 rfl rfl)).symm, pe_to h61 nfc_61, True.intro⟩ (fun _ _ => rfl)
set_option maxRecDepth 1000000 in
theorem ek_wn_21 : rck 29 217 [.ref 56, .long 21] 84 62986 [(56, O56s), (57, A57s), (61, zc_61)] (some (.int 0)) [(56, O56s), (57, A57s), (61, zc_61)] = true := by decide +kernel
theorem wn_21 {s mc x : Int32} (hY : YH 84 62986 V h) (h56 : V 56 = O56 x) (h57 : V 57 = A57 s mc) (h61 : V 61 = zc_61) : ∃ h2, mx_Ca (tB l D b0 ad Hb tau) 29 217 [.ref 56, .long 21] h (some (.int 0), h2) ∧ YH 84 62986 V h2 :=
  YT (fun i => if i = 0 then s.toInt64 else if i = 1 then mc.toInt64 else x.toInt64) V ek_wn_21 rfl rfl hY ⟨⟨rfl, pe_eql h56 (pe56 rfl)⟩, ⟨rfl, pe_eql h57 (pe57 rfl rfl)⟩, ⟨rfl, pe_of h61 nfc_61⟩, True.intro⟩ ⟨(pe_eql h56 (pe56 rfl)).symm, (pe_eql h57 (pe57 rfl rfl)).symm, pe_to h61 nfc_61, True.intro⟩ (fun _ _ => rfl)
set_option maxRecDepth 1000000 in
theorem ek_wn_22 : rck 29 217 [.ref 56, .long 22] 84 62986 [(56, O56s), (57, A57s), (61, zc_61)] (some (.int 0)) [(56, O56s), (57, A57s), (61, zc_61)] = true := by decide +kernel
theorem wn_22 {s mc x : Int32} (hY : YH 84 62986 V h) (h56 : V 56 = O56 x) (h57 : V 57 = A57 s mc) (h61 : V 61 = zc_61) : ∃ h2, mx_Ca (tB l D b0 ad Hb tau) 29 217 [.ref 56, .long 22] h (some (.int 0), h2) ∧ YH 84 62986 V h2 :=
  YT (fun i => if i = 0 then s.toInt64 else if i = 1 then mc.toInt64 else x.toInt64) V ek_wn_22 rfl rfl hY ⟨⟨rfl, pe_eql h56 (pe56 rfl)⟩, ⟨rfl, pe_eql h57 (pe57 rfl rfl)⟩, ⟨rfl, pe_of h61 nfc_61⟩, True.intro⟩ ⟨(pe_eql h56 (pe56 rfl)).symm, (pe_eql h57 (pe57 rfl rfl)).symm, pe_to h61 nfc_61, True.intro⟩ (fun _ _ => rfl)
set_option maxRecDepth 1000000 in
theorem ek_wn_23 : rck 29 217 [.ref 56, .long 23] 84 62986 [(56, O56s), (57, A57s), (61, zc_61)] (some (.int 0)) [(56, O56s), (57, A57s), (61, zc_61)] = true := by decide +kernel
theorem wn_23 {s mc x : Int32} (hY : YH 84 62986 V h) (h56 : V 56 = O56 x) (h57 : V 57 = A57 s mc) (h61 : V 61 = zc_61) : ∃ h2, mx_Ca (tB l D b0 ad Hb tau) 29 217 [.ref 56, .long 23] h (some (.int 0), h2) ∧ YH 84 62986 V h2 :=
  YT (fun i => if i = 0 then s.toInt64 else if i = 1 then mc.toInt64 else x.toInt64) V ek_wn_23 rfl rfl hY ⟨⟨rfl, pe_eql h56 (pe56 rfl)⟩, ⟨rfl, pe_eql h57 (pe57 rfl rfl)⟩, ⟨rfl, pe_of h61 nfc_61⟩, True.intro⟩ ⟨(pe_eql h56 (pe56 rfl)).symm, (pe_eql h57 (pe57 rfl rfl)).symm, pe_to h61 nfc_61, True.intro⟩ (fun _ _ => rfl)
set_option maxRecDepth 1000000 in
theorem ek_wn_24 : rck 29 217 [.ref 56, .long 24] 84 62986 [(56, O56s), (57, A57s), (61, zc_61)] (some (.int 0)) [(56, O56s), (57, A57s), (61, zc_61)] = true := by decide +kernel
theorem wn_24 {s mc x : Int32} (hY : YH 84 62986 V h) (h56 : V 56 = O56 x) (h57 : V 57 = A57 s mc) (h61 : V 61 = zc_61) : ∃ h2, mx_Ca (tB l D b0 ad Hb tau) 29 217 [.ref 56, .long 24] h (some (.int 0), h2) ∧ YH 84 62986 V h2 :=
  YT (fun i => if i = 0 then s.toInt64 else if i = 1 then mc.toInt64 else x.toInt64) V ek_wn_24 rfl rfl hY ⟨⟨rfl, pe_eql h56 (pe56 rfl)⟩, ⟨rfl, pe_eql h57 (pe57 rfl rfl)⟩, ⟨rfl, pe_of h61 nfc_61⟩, True.intro⟩ ⟨(pe_eql h56 (pe56 rfl)).symm, (pe_eql h57 (pe57 rfl rfl)).symm, pe_to h61 nfc_61, True.intro⟩ (fun _ _ => rfl)
set_option maxRecDepth 1000000 in
theorem ek_wn_25 : rck 29 217 [.ref 56, .long 25] 84 62986 [(56, O56s), (57, A57s), (61, zc_61)] (some (.int 0)) [(56, O56s), (57, A57s), (61, zc_61)] = true := by decide +kernel
theorem wn_25 {s mc x : Int32} (hY : YH 84 62986 V h) (h56 : V 56 = O56 x) (h57 : V 57 = A57 s mc) (h61 : V 61 = zc_61) : ∃ h2, mx_Ca (tB l D b0 ad Hb tau) 29 217 [.ref 56, .long 25] h (some (.int 0), h2) ∧ YH 84 62986 V h2 :=
  YT (fun i => if i = 0 then s.toInt64 else if i = 1 then mc.toInt64 else x.toInt64) V ek_wn_25 rfl rfl hY ⟨⟨rfl, pe_eql h56 (pe56 rfl)⟩, ⟨rfl, pe_eql h57 (pe57 rfl rfl)⟩, ⟨rfl, pe_of h61 nfc_61⟩, True.intro⟩ ⟨(pe_eql h56 (pe56 rfl)).symm, (pe_eql h57 (pe57 rfl rfl)).symm, pe_to h61 nfc_61, True.intro⟩ (fun _ _ => rfl)
set_option maxRecDepth 1000000 in
theorem ek_wn_26 : rck 29 217 [.ref 56, .long 26] 84 62986 [(56, O56s), (57, A57s), (61, zc_61)] (some (.int 0)) [(56, O56s), (57, A57s), (61, zc_61)] = true := by decide +kernel
theorem wn_26 {s mc x : Int32} (hY : YH 84 62986 V h) (h56 : V 56 = O56 x) (h57 : V 57 = A57 s mc) (h61 : V 61 = zc_61) : ∃ h2, mx_Ca (tB l D b0 ad Hb tau) 29 217 [.ref 56, .long 26] h (some (.int 0), h2) ∧ YH 84 62986 V h2 :=
  YT (fun i => if i = 0 then s.toInt64 else if i = 1 then mc.toInt64 else x.toInt64) V ek_wn_26 rfl rfl hY ⟨⟨rfl, pe_eql h56 (pe56 rfl)⟩, ⟨rfl, pe_eql h57 (pe57 rfl rfl)⟩, ⟨rfl, pe_of h61 nfc_61⟩, True.intro⟩ ⟨(pe_eql h56 (pe56 rfl)).symm, (pe_eql h57 (pe57 rfl rfl)).symm, pe_to h61 nfc_61, True.intro⟩ (fun _ _ => rfl)
set_option maxRecDepth 1000000 in
theorem ek_wn_27 : rck 29 217 [.ref 56, .long 27] 84 62986 [(56, O56s), (57, A57s), (61, zc_61)] (some (.int 0)) [(56, O56s), (57, A57s), (61, zc_61)] = true := by decide +kernel
theorem wn_27 {s mc x : Int32} (hY : YH 84 62986 V h) (h56 : V 56 = O56 x) (h57 : V 57 = A57 s mc) (h61 : V 61 = zc_61) : ∃ h2, mx_Ca (tB l D b0 ad Hb tau) 29 217 [.ref 56, .long 27] h (some (.int 0), h2) ∧ YH 84 62986 V h2 :=
  YT (fun i => if i = 0 then s.toInt64 else if i = 1 then mc.toInt64 else x.toInt64) V ek_wn_27 rfl rfl hY ⟨⟨rfl, pe_eql h56 (pe56 rfl)⟩, ⟨rfl, pe_eql h57 (pe57 rfl rfl)⟩, ⟨rfl, pe_of h61 nfc_61⟩, True.intro⟩ ⟨(pe_eql h56 (pe56 rfl)).symm, (pe_eql h57 (pe57 rfl rfl)).symm, pe_to h61 nfc_61, True.intro⟩ (fun _ _ => rfl)
set_option maxRecDepth 1000000 in
theorem ek_wn_28 : rck 29 217 [.ref 56, .long 28] 84 62986 [(56, O56s), (57, A57s), (61, zc_61)] (some (.int 0)) [(56, O56s), (57, A57s), (61, zc_61)] = true := by decide +kernel
theorem wn_28 {s mc x : Int32} (hY : YH 84 62986 V h) (h56 : V 56 = O56 x) (h57 : V 57 = A57 s mc) (h61 : V 61 = zc_61) : ∃ h2, mx_Ca (tB l D b0 ad Hb tau) 29 217 [.ref 56, .long 28] h (some (.int 0), h2) ∧ YH 84 62986 V h2 :=
  YT (fun i => if i = 0 then s.toInt64 else if i = 1 then mc.toInt64 else x.toInt64) V ek_wn_28 rfl rfl hY ⟨⟨rfl, pe_eql h56 (pe56 rfl)⟩, ⟨rfl, pe_eql h57 (pe57 rfl rfl)⟩, ⟨rfl, pe_of h61 nfc_61⟩, True.intro⟩ ⟨(pe_eql h56 (pe56 rfl)).symm, (pe_eql h57 (pe57 rfl rfl)).symm, pe_to h61 nfc_61, True.intro⟩ (fun _ _ => rfl)
set_option maxRecDepth 1000000 in
theorem ek_wn_29 : rck 29 217 [.ref 56, .long 29] 84 62986 [(56, O56s), (57, A57s), (61, zc_61)] (some (.int 0)) [(56, O56s), (57, A57s), (61, zc_61)] = true := by decide +kernel
theorem wn_29 {s mc x : Int32} (hY : YH 84 62986 V h) (h56 : V 56 = O56 x) (h57 : V 57 = A57 s mc) (h61 : V 61 = zc_61) : ∃ h2, mx_Ca (tB l D b0 ad Hb tau) 29 217 [.ref 56, .long 29] h (some (.int 0), h2) ∧ YH 84 62986 V h2 :=
  YT (fun i => if i = 0 then s.toInt64 else if i = 1 then mc.toInt64 else x.toInt64) V ek_wn_29 rfl rfl hY ⟨⟨rfl, pe_eql h56 (pe56 rfl)⟩, ⟨rfl, pe_eql h57 (pe57 rfl rfl)⟩, ⟨rfl, pe_of h61 nfc_61⟩, True.intro⟩ ⟨(pe_eql h56 (pe56 rfl)).symm, (pe_eql h57 (pe57 rfl rfl)).symm, pe_to h61 nfc_61, True.intro⟩ (fun _ _ => rfl)
set_option maxRecDepth 1000000 in
theorem ek_wn_3000 : rck 29 217 [.ref 56, .long 3000] 84 62986 [(56, O56s), (57, A57s), (61, zc_61)] (some (.int 1)) [(56, O56s), (57, A57s), (61, zc_61)] = true := by decide +kernel
theorem wn_3000 {s mc x : Int32} (hY : YH 84 62986 V h) (h56 : V 56 = O56 x) (h57 : V 57 = A57 s mc) (h61 : V 61 = zc_61) : ∃ h2, mx_Ca (tB l D b0 ad Hb tau) 29 217 [.ref 56, .long 3000] h (some (.int 1), h2) ∧ YH 84 62986 V h2 :=
  YT (fun i => if i = 0 then s.toInt64 else if i = 1 then mc.toInt64 else x.toInt64) V ek_wn_3000 rfl rfl hY ⟨⟨rfl, pe_eql h56 (pe56 rfl)⟩, ⟨rfl, pe_eql h57 (pe57 rfl rfl)⟩, ⟨rfl, pe_of h61 nfc_61⟩, True.intro⟩ ⟨(pe_eql h56 (pe56 rfl)).symm, (pe_eql h57 (pe57 rfl rfl)).symm, pe_to h61 nfc_61, True.intro⟩ (fun _ _ => rfl)
set_option maxRecDepth 1000000 in
theorem ek_wn_3001 : rck 29 217 [.ref 56, .long 3001] 84 62986 [(56, O56s), (57, A57s), (61, zc_61)] (some (.int 1)) [(56, O56s), (57, A57s), (61, zc_61)] = true := by decide +kernel
theorem wn_3001 {s mc x : Int32} (hY : YH 84 62986 V h) (h56 : V 56 = O56 x) (h57 : V 57 = A57 s mc) (h61 : V 61 = zc_61) : ∃ h2, mx_Ca (tB l D b0 ad Hb tau) 29 217 [.ref 56, .long 3001] h (some (.int 1), h2) ∧ YH 84 62986 V h2 :=
  YT (fun i => if i = 0 then s.toInt64 else if i = 1 then mc.toInt64 else x.toInt64) V ek_wn_3001 rfl rfl hY ⟨⟨rfl, pe_eql h56 (pe56 rfl)⟩, ⟨rfl, pe_eql h57 (pe57 rfl rfl)⟩, ⟨rfl, pe_of h61 nfc_61⟩, True.intro⟩ ⟨(pe_eql h56 (pe56 rfl)).symm, (pe_eql h57 (pe57 rfl rfl)).symm, pe_to h61 nfc_61, True.intro⟩ (fun _ _ => rfl)
set_option maxRecDepth 1000000 in
theorem ek_wn_3002 : rck 29 217 [.ref 56, .long 3002] 84 62986 [(56, O56s), (57, A57s), (61, zc_61)] (some (.int 1)) [(56, O56s), (57, A57s), (61, zc_61)] = true := by decide +kernel
theorem wn_3002 {s mc x : Int32} (hY : YH 84 62986 V h) (h56 : V 56 = O56 x) (h57 : V 57 = A57 s mc) (h61 : V 61 = zc_61) : ∃ h2, mx_Ca (tB l D b0 ad Hb tau) 29 217 [.ref 56, .long 3002] h (some (.int 1), h2) ∧ YH 84 62986 V h2 :=
  YT (fun i => if i = 0 then s.toInt64 else if i = 1 then mc.toInt64 else x.toInt64) V ek_wn_3002 rfl rfl hY ⟨⟨rfl, pe_eql h56 (pe56 rfl)⟩, ⟨rfl, pe_eql h57 (pe57 rfl rfl)⟩, ⟨rfl, pe_of h61 nfc_61⟩, True.intro⟩ ⟨(pe_eql h56 (pe56 rfl)).symm, (pe_eql h57 (pe57 rfl rfl)).symm, pe_to h61 nfc_61, True.intro⟩ (fun _ _ => rfl)
set_option maxRecDepth 1000000 in
theorem ek_wn_3003 : rck 29 217 [.ref 56, .long 3003] 84 62986 [(56, O56s), (57, A57s), (61, zc_61)] (some (.int 1)) [(56, O56s), (57, A57s), (61, zc_61)] = true := by decide +kernel
theorem wn_3003 {s mc x : Int32} (hY : YH 84 62986 V h) (h56 : V 56 = O56 x) (h57 : V 57 = A57 s mc) (h61 : V 61 = zc_61) : ∃ h2, mx_Ca (tB l D b0 ad Hb tau) 29 217 [.ref 56, .long 3003] h (some (.int 1), h2) ∧ YH 84 62986 V h2 :=
  YT (fun i => if i = 0 then s.toInt64 else if i = 1 then mc.toInt64 else x.toInt64) V ek_wn_3003 rfl rfl hY ⟨⟨rfl, pe_eql h56 (pe56 rfl)⟩, ⟨rfl, pe_eql h57 (pe57 rfl rfl)⟩, ⟨rfl, pe_of h61 nfc_61⟩, True.intro⟩ ⟨(pe_eql h56 (pe56 rfl)).symm, (pe_eql h57 (pe57 rfl rfl)).symm, pe_to h61 nfc_61, True.intro⟩ (fun _ _ => rfl)
set_option maxRecDepth 1000000 in
theorem ek_wn_3004 : rck 29 217 [.ref 56, .long 3004] 84 62986 [(56, O56s), (57, A57s), (61, zc_61)] (some (.int 1)) [(56, O56s), (57, A57s), (61, zc_61)] = true := by decide +kernel
theorem wn_3004 {s mc x : Int32} (hY : YH 84 62986 V h) (h56 : V 56 = O56 x) (h57 : V 57 = A57 s mc) (h61 : V 61 = zc_61) : ∃ h2, mx_Ca (tB l D b0 ad Hb tau) 29 217 [.ref 56, .long 3004] h (some (.int 1), h2) ∧ YH 84 62986 V h2 :=
  YT (fun i => if i = 0 then s.toInt64 else if i = 1 then mc.toInt64 else x.toInt64) V ek_wn_3004 rfl rfl hY ⟨⟨rfl, pe_eql h56 (pe56 rfl)⟩, ⟨rfl, pe_eql h57 (pe57 rfl rfl)⟩, ⟨rfl, pe_of h61 nfc_61⟩, True.intro⟩ ⟨(pe_eql h56 (pe56 rfl)).symm, (pe_eql h57 (pe57 rfl rfl)).symm, pe_to h61 nfc_61, True.intro⟩ (fun _ _ => rfl)
set_option maxRecDepth 1000000 in
theorem ek_wn_3005 : rck 29 217 [.ref 56, .long 3005] 84 62986 [(56, O56s), (57, A57s), (61, zc_61)] (some (.int 1)) [(56, O56s), (57, A57s), (61, zc_61)] = true := by decide +kernel
theorem wn_3005 {s mc x : Int32} (hY : YH 84 62986 V h) (h56 : V 56 = O56 x) (h57 : V 57 = A57 s mc) (h61 : V 61 = zc_61) : ∃ h2, mx_Ca (tB l D b0 ad Hb tau) 29 217 [.ref 56, .long 3005] h (some (.int 1), h2) ∧ YH 84 62986 V h2 :=
  YT (fun i => if i = 0 then s.toInt64 else if i = 1 then mc.toInt64 else x.toInt64) V ek_wn_3005 rfl rfl hY ⟨⟨rfl, pe_eql h56 (pe56 rfl)⟩, ⟨rfl, pe_eql h57 (pe57 rfl rfl)⟩, ⟨rfl, pe_of h61 nfc_61⟩, True.intro⟩ ⟨(pe_eql h56 (pe56 rfl)).symm, (pe_eql h57 (pe57 rfl rfl)).symm, pe_to h61 nfc_61, True.intro⟩ (fun _ _ => rfl)
set_option maxRecDepth 1000000 in
theorem ek_wn_3100 : rck 29 217 [.ref 56, .long 3100] 84 62986 [(56, O56s), (57, A57s), (61, zc_61)] (some (.int 1)) [(56, O56s), (57, A57s), (61, zc_61)] = true := by decide +kernel
theorem wn_3100 {s mc x : Int32} (hY : YH 84 62986 V h) (h56 : V 56 = O56 x) (h57 : V 57 = A57 s mc) (h61 : V 61 = zc_61) : ∃ h2, mx_Ca (tB l D b0 ad Hb tau) 29 217 [.ref 56, .long 3100] h (some (.int 1), h2) ∧ YH 84 62986 V h2 :=
  YT (fun i => if i = 0 then s.toInt64 else if i = 1 then mc.toInt64 else x.toInt64) V ek_wn_3100 rfl rfl hY ⟨⟨rfl, pe_eql h56 (pe56 rfl)⟩, ⟨rfl, pe_eql h57 (pe57 rfl rfl)⟩, ⟨rfl, pe_of h61 nfc_61⟩, True.intro⟩ ⟨(pe_eql h56 (pe56 rfl)).symm, (pe_eql h57 (pe57 rfl rfl)).symm, pe_to h61 nfc_61, True.intro⟩ (fun _ _ => rfl)
set_option maxRecDepth 1000000 in
theorem ek_wn_3101 : rck 29 217 [.ref 56, .long 3101] 84 62986 [(56, O56s), (57, A57s), (61, zc_61)] (some (.int 2)) [(56, O56s), (57, A57s), (61, zc_61)] = true := by decide +kernel
theorem wn_3101 {s mc x : Int32} (hY : YH 84 62986 V h) (h56 : V 56 = O56 x) (h57 : V 57 = A57 s mc) (h61 : V 61 = zc_61) : ∃ h2, mx_Ca (tB l D b0 ad Hb tau) 29 217 [.ref 56, .long 3101] h (some (.int 2), h2) ∧ YH 84 62986 V h2 :=
  YT (fun i => if i = 0 then s.toInt64 else if i = 1 then mc.toInt64 else x.toInt64) V ek_wn_3101 rfl rfl hY ⟨⟨rfl, pe_eql h56 (pe56 rfl)⟩, ⟨rfl, pe_eql h57 (pe57 rfl rfl)⟩, ⟨rfl, pe_of h61 nfc_61⟩, True.intro⟩ ⟨(pe_eql h56 (pe56 rfl)).symm, (pe_eql h57 (pe57 rfl rfl)).symm, pe_to h61 nfc_61, True.intro⟩ (fun _ _ => rfl)
set_option maxRecDepth 1000000 in
theorem ek_wn_3102 : rck 29 217 [.ref 56, .long 3102] 84 62986 [(56, O56s), (57, A57s), (61, zc_61)] (some (.int 2)) [(56, O56s), (57, A57s), (61, zc_61)] = true := by decide +kernel
theorem wn_3102 {s mc x : Int32} (hY : YH 84 62986 V h) (h56 : V 56 = O56 x) (h57 : V 57 = A57 s mc) (h61 : V 61 = zc_61) : ∃ h2, mx_Ca (tB l D b0 ad Hb tau) 29 217 [.ref 56, .long 3102] h (some (.int 2), h2) ∧ YH 84 62986 V h2 :=
  YT (fun i => if i = 0 then s.toInt64 else if i = 1 then mc.toInt64 else x.toInt64) V ek_wn_3102 rfl rfl hY ⟨⟨rfl, pe_eql h56 (pe56 rfl)⟩, ⟨rfl, pe_eql h57 (pe57 rfl rfl)⟩, ⟨rfl, pe_of h61 nfc_61⟩, True.intro⟩ ⟨(pe_eql h56 (pe56 rfl)).symm, (pe_eql h57 (pe57 rfl rfl)).symm, pe_to h61 nfc_61, True.intro⟩ (fun _ _ => rfl)
set_option maxRecDepth 1000000 in
theorem ek_wn_3103 : rck 29 217 [.ref 56, .long 3103] 84 62986 [(56, O56s), (57, A57s), (61, zc_61)] (some (.int 2)) [(56, O56s), (57, A57s), (61, zc_61)] = true := by decide +kernel
theorem wn_3103 {s mc x : Int32} (hY : YH 84 62986 V h) (h56 : V 56 = O56 x) (h57 : V 57 = A57 s mc) (h61 : V 61 = zc_61) : ∃ h2, mx_Ca (tB l D b0 ad Hb tau) 29 217 [.ref 56, .long 3103] h (some (.int 2), h2) ∧ YH 84 62986 V h2 :=
  YT (fun i => if i = 0 then s.toInt64 else if i = 1 then mc.toInt64 else x.toInt64) V ek_wn_3103 rfl rfl hY ⟨⟨rfl, pe_eql h56 (pe56 rfl)⟩, ⟨rfl, pe_eql h57 (pe57 rfl rfl)⟩, ⟨rfl, pe_of h61 nfc_61⟩, True.intro⟩ ⟨(pe_eql h56 (pe56 rfl)).symm, (pe_eql h57 (pe57 rfl rfl)).symm, pe_to h61 nfc_61, True.intro⟩ (fun _ _ => rfl)
set_option maxRecDepth 1000000 in
theorem ek_wn_3104 : rck 29 217 [.ref 56, .long 3104] 84 62986 [(56, O56s), (57, A57s), (61, zc_61)] (some (.int 2)) [(56, O56s), (57, A57s), (61, zc_61)] = true := by decide +kernel
theorem wn_3104 {s mc x : Int32} (hY : YH 84 62986 V h) (h56 : V 56 = O56 x) (h57 : V 57 = A57 s mc) (h61 : V 61 = zc_61) : ∃ h2, mx_Ca (tB l D b0 ad Hb tau) 29 217 [.ref 56, .long 3104] h (some (.int 2), h2) ∧ YH 84 62986 V h2 :=
  YT (fun i => if i = 0 then s.toInt64 else if i = 1 then mc.toInt64 else x.toInt64) V ek_wn_3104 rfl rfl hY ⟨⟨rfl, pe_eql h56 (pe56 rfl)⟩, ⟨rfl, pe_eql h57 (pe57 rfl rfl)⟩, ⟨rfl, pe_of h61 nfc_61⟩, True.intro⟩ ⟨(pe_eql h56 (pe56 rfl)).symm, (pe_eql h57 (pe57 rfl rfl)).symm, pe_to h61 nfc_61, True.intro⟩ (fun _ _ => rfl)
set_option maxRecDepth 1000000 in
theorem ek_wn_3105 : rck 29 217 [.ref 56, .long 3105] 84 62986 [(56, O56s), (57, A57s), (61, zc_61)] (some (.int 2)) [(56, O56s), (57, A57s), (61, zc_61)] = true := by decide +kernel
theorem wn_3105 {s mc x : Int32} (hY : YH 84 62986 V h) (h56 : V 56 = O56 x) (h57 : V 57 = A57 s mc) (h61 : V 61 = zc_61) : ∃ h2, mx_Ca (tB l D b0 ad Hb tau) 29 217 [.ref 56, .long 3105] h (some (.int 2), h2) ∧ YH 84 62986 V h2 :=
  YT (fun i => if i = 0 then s.toInt64 else if i = 1 then mc.toInt64 else x.toInt64) V ek_wn_3105 rfl rfl hY ⟨⟨rfl, pe_eql h56 (pe56 rfl)⟩, ⟨rfl, pe_eql h57 (pe57 rfl rfl)⟩, ⟨rfl, pe_of h61 nfc_61⟩, True.intro⟩ ⟨(pe_eql h56 (pe56 rfl)).symm, (pe_eql h57 (pe57 rfl rfl)).symm, pe_to h61 nfc_61, True.intro⟩ (fun _ _ => rfl)
set_option maxRecDepth 1000000 in
theorem ek_wn_3200 : rck 29 217 [.ref 56, .long 3200] 84 62986 [(56, O56s), (57, A57s), (61, zc_61)] (some (.int 1)) [(56, O56s), (57, A57s), (61, zc_61)] = true := by decide +kernel
theorem wn_3200 {s mc x : Int32} (hY : YH 84 62986 V h) (h56 : V 56 = O56 x) (h57 : V 57 = A57 s mc) (h61 : V 61 = zc_61) : ∃ h2, mx_Ca (tB l D b0 ad Hb tau) 29 217 [.ref 56, .long 3200] h (some (.int 1), h2) ∧ YH 84 62986 V h2 :=
  YT (fun i => if i = 0 then s.toInt64 else if i = 1 then mc.toInt64 else x.toInt64) V ek_wn_3200 rfl rfl hY ⟨⟨rfl, pe_eql h56 (pe56 rfl)⟩, ⟨rfl, pe_eql h57 (pe57 rfl rfl)⟩, ⟨rfl, pe_of h61 nfc_61⟩, True.intro⟩ ⟨(pe_eql h56 (pe56 rfl)).symm, (pe_eql h57 (pe57 rfl rfl)).symm, pe_to h61 nfc_61, True.intro⟩ (fun _ _ => rfl)
set_option maxRecDepth 1000000 in
theorem ek_wn_3201 : rck 29 217 [.ref 56, .long 3201] 84 62986 [(56, O56s), (57, A57s), (61, zc_61)] (some (.int 2)) [(56, O56s), (57, A57s), (61, zc_61)] = true := by decide +kernel
theorem wn_3201 {s mc x : Int32} (hY : YH 84 62986 V h) (h56 : V 56 = O56 x) (h57 : V 57 = A57 s mc) (h61 : V 61 = zc_61) : ∃ h2, mx_Ca (tB l D b0 ad Hb tau) 29 217 [.ref 56, .long 3201] h (some (.int 2), h2) ∧ YH 84 62986 V h2 :=
  YT (fun i => if i = 0 then s.toInt64 else if i = 1 then mc.toInt64 else x.toInt64) V ek_wn_3201 rfl rfl hY ⟨⟨rfl, pe_eql h56 (pe56 rfl)⟩, ⟨rfl, pe_eql h57 (pe57 rfl rfl)⟩, ⟨rfl, pe_of h61 nfc_61⟩, True.intro⟩ ⟨(pe_eql h56 (pe56 rfl)).symm, (pe_eql h57 (pe57 rfl rfl)).symm, pe_to h61 nfc_61, True.intro⟩ (fun _ _ => rfl)
set_option maxRecDepth 1000000 in
theorem ek_wn_3202 : rck 29 217 [.ref 56, .long 3202] 84 62986 [(56, O56s), (57, A57s), (61, zc_61)] (some (.int 2)) [(56, O56s), (57, A57s), (61, zc_61)] = true := by decide +kernel
theorem wn_3202 {s mc x : Int32} (hY : YH 84 62986 V h) (h56 : V 56 = O56 x) (h57 : V 57 = A57 s mc) (h61 : V 61 = zc_61) : ∃ h2, mx_Ca (tB l D b0 ad Hb tau) 29 217 [.ref 56, .long 3202] h (some (.int 2), h2) ∧ YH 84 62986 V h2 :=
  YT (fun i => if i = 0 then s.toInt64 else if i = 1 then mc.toInt64 else x.toInt64) V ek_wn_3202 rfl rfl hY ⟨⟨rfl, pe_eql h56 (pe56 rfl)⟩, ⟨rfl, pe_eql h57 (pe57 rfl rfl)⟩, ⟨rfl, pe_of h61 nfc_61⟩, True.intro⟩ ⟨(pe_eql h56 (pe56 rfl)).symm, (pe_eql h57 (pe57 rfl rfl)).symm, pe_to h61 nfc_61, True.intro⟩ (fun _ _ => rfl)
set_option maxRecDepth 1000000 in
theorem ek_wn_3203 : rck 29 217 [.ref 56, .long 3203] 84 62986 [(56, O56s), (57, A57s), (61, zc_61)] (some (.int 2)) [(56, O56s), (57, A57s), (61, zc_61)] = true := by decide +kernel
theorem wn_3203 {s mc x : Int32} (hY : YH 84 62986 V h) (h56 : V 56 = O56 x) (h57 : V 57 = A57 s mc) (h61 : V 61 = zc_61) : ∃ h2, mx_Ca (tB l D b0 ad Hb tau) 29 217 [.ref 56, .long 3203] h (some (.int 2), h2) ∧ YH 84 62986 V h2 :=
  YT (fun i => if i = 0 then s.toInt64 else if i = 1 then mc.toInt64 else x.toInt64) V ek_wn_3203 rfl rfl hY ⟨⟨rfl, pe_eql h56 (pe56 rfl)⟩, ⟨rfl, pe_eql h57 (pe57 rfl rfl)⟩, ⟨rfl, pe_of h61 nfc_61⟩, True.intro⟩ ⟨(pe_eql h56 (pe56 rfl)).symm, (pe_eql h57 (pe57 rfl rfl)).symm, pe_to h61 nfc_61, True.intro⟩ (fun _ _ => rfl)
set_option maxRecDepth 1000000 in
theorem ek_wn_3204 : rck 29 217 [.ref 56, .long 3204] 84 62986 [(56, O56s), (57, A57s), (61, zc_61)] (some (.int 2)) [(56, O56s), (57, A57s), (61, zc_61)] = true := by decide +kernel
theorem wn_3204 {s mc x : Int32} (hY : YH 84 62986 V h) (h56 : V 56 = O56 x) (h57 : V 57 = A57 s mc) (h61 : V 61 = zc_61) : ∃ h2, mx_Ca (tB l D b0 ad Hb tau) 29 217 [.ref 56, .long 3204] h (some (.int 2), h2) ∧ YH 84 62986 V h2 :=
  YT (fun i => if i = 0 then s.toInt64 else if i = 1 then mc.toInt64 else x.toInt64) V ek_wn_3204 rfl rfl hY ⟨⟨rfl, pe_eql h56 (pe56 rfl)⟩, ⟨rfl, pe_eql h57 (pe57 rfl rfl)⟩, ⟨rfl, pe_of h61 nfc_61⟩, True.intro⟩ ⟨(pe_eql h56 (pe56 rfl)).symm, (pe_eql h57 (pe57 rfl rfl)).symm, pe_to h61 nfc_61, True.intro⟩ (fun _ _ => rfl)
set_option maxRecDepth 1000000 in
theorem ek_wn_3205 : rck 29 217 [.ref 56, .long 3205] 84 62986 [(56, O56s), (57, A57s), (61, zc_61)] (some (.int 2)) [(56, O56s), (57, A57s), (61, zc_61)] = true := by decide +kernel
theorem wn_3205 {s mc x : Int32} (hY : YH 84 62986 V h) (h56 : V 56 = O56 x) (h57 : V 57 = A57 s mc) (h61 : V 61 = zc_61) : ∃ h2, mx_Ca (tB l D b0 ad Hb tau) 29 217 [.ref 56, .long 3205] h (some (.int 2), h2) ∧ YH 84 62986 V h2 :=
  YT (fun i => if i = 0 then s.toInt64 else if i = 1 then mc.toInt64 else x.toInt64) V ek_wn_3205 rfl rfl hY ⟨⟨rfl, pe_eql h56 (pe56 rfl)⟩, ⟨rfl, pe_eql h57 (pe57 rfl rfl)⟩, ⟨rfl, pe_of h61 nfc_61⟩, True.intro⟩ ⟨(pe_eql h56 (pe56 rfl)).symm, (pe_eql h57 (pe57 rfl rfl)).symm, pe_to h61 nfc_61, True.intro⟩ (fun _ _ => rfl)
set_option maxRecDepth 1000000 in
theorem ek_wn_3300 : rck 29 217 [.ref 56, .long 3300] 84 62986 [(56, O56s), (57, A57s), (61, zc_61)] (some (.int 1)) [(56, O56s), (57, A57s), (61, zc_61)] = true := by decide +kernel
theorem wn_3300 {s mc x : Int32} (hY : YH 84 62986 V h) (h56 : V 56 = O56 x) (h57 : V 57 = A57 s mc) (h61 : V 61 = zc_61) : ∃ h2, mx_Ca (tB l D b0 ad Hb tau) 29 217 [.ref 56, .long 3300] h (some (.int 1), h2) ∧ YH 84 62986 V h2 :=
  YT (fun i => if i = 0 then s.toInt64 else if i = 1 then mc.toInt64 else x.toInt64) V ek_wn_3300 rfl rfl hY ⟨⟨rfl, pe_eql h56 (pe56 rfl)⟩, ⟨rfl, pe_eql h57 (pe57 rfl rfl)⟩, ⟨rfl, pe_of h61 nfc_61⟩, True.intro⟩ ⟨(pe_eql h56 (pe56 rfl)).symm, (pe_eql h57 (pe57 rfl rfl)).symm, pe_to h61 nfc_61, True.intro⟩ (fun _ _ => rfl)
set_option maxRecDepth 1000000 in
theorem ek_wn_3301 : rck 29 217 [.ref 56, .long 3301] 84 62986 [(56, O56s), (57, A57s), (61, zc_61)] (some (.int 2)) [(56, O56s), (57, A57s), (61, zc_61)] = true := by decide +kernel
theorem wn_3301 {s mc x : Int32} (hY : YH 84 62986 V h) (h56 : V 56 = O56 x) (h57 : V 57 = A57 s mc) (h61 : V 61 = zc_61) : ∃ h2, mx_Ca (tB l D b0 ad Hb tau) 29 217 [.ref 56, .long 3301] h (some (.int 2), h2) ∧ YH 84 62986 V h2 :=
  YT (fun i => if i = 0 then s.toInt64 else if i = 1 then mc.toInt64 else x.toInt64) V ek_wn_3301 rfl rfl hY ⟨⟨rfl, pe_eql h56 (pe56 rfl)⟩, ⟨rfl, pe_eql h57 (pe57 rfl rfl)⟩, ⟨rfl, pe_of h61 nfc_61⟩, True.intro⟩ ⟨(pe_eql h56 (pe56 rfl)).symm, (pe_eql h57 (pe57 rfl rfl)).symm, pe_to h61 nfc_61, True.intro⟩ (fun _ _ => rfl)
set_option maxRecDepth 1000000 in
theorem ek_wn_3302 : rck 29 217 [.ref 56, .long 3302] 84 62986 [(56, O56s), (57, A57s), (61, zc_61)] (some (.int 2)) [(56, O56s), (57, A57s), (61, zc_61)] = true := by decide +kernel
theorem wn_3302 {s mc x : Int32} (hY : YH 84 62986 V h) (h56 : V 56 = O56 x) (h57 : V 57 = A57 s mc) (h61 : V 61 = zc_61) : ∃ h2, mx_Ca (tB l D b0 ad Hb tau) 29 217 [.ref 56, .long 3302] h (some (.int 2), h2) ∧ YH 84 62986 V h2 :=
  YT (fun i => if i = 0 then s.toInt64 else if i = 1 then mc.toInt64 else x.toInt64) V ek_wn_3302 rfl rfl hY ⟨⟨rfl, pe_eql h56 (pe56 rfl)⟩, ⟨rfl, pe_eql h57 (pe57 rfl rfl)⟩, ⟨rfl, pe_of h61 nfc_61⟩, True.intro⟩ ⟨(pe_eql h56 (pe56 rfl)).symm, (pe_eql h57 (pe57 rfl rfl)).symm, pe_to h61 nfc_61, True.intro⟩ (fun _ _ => rfl)
set_option maxRecDepth 1000000 in
theorem ek_wn_3303 : rck 29 217 [.ref 56, .long 3303] 84 62986 [(56, O56s), (57, A57s), (61, zc_61)] (some (.int 2)) [(56, O56s), (57, A57s), (61, zc_61)] = true := by decide +kernel
theorem wn_3303 {s mc x : Int32} (hY : YH 84 62986 V h) (h56 : V 56 = O56 x) (h57 : V 57 = A57 s mc) (h61 : V 61 = zc_61) : ∃ h2, mx_Ca (tB l D b0 ad Hb tau) 29 217 [.ref 56, .long 3303] h (some (.int 2), h2) ∧ YH 84 62986 V h2 :=
  YT (fun i => if i = 0 then s.toInt64 else if i = 1 then mc.toInt64 else x.toInt64) V ek_wn_3303 rfl rfl hY ⟨⟨rfl, pe_eql h56 (pe56 rfl)⟩, ⟨rfl, pe_eql h57 (pe57 rfl rfl)⟩, ⟨rfl, pe_of h61 nfc_61⟩, True.intro⟩ ⟨(pe_eql h56 (pe56 rfl)).symm, (pe_eql h57 (pe57 rfl rfl)).symm, pe_to h61 nfc_61, True.intro⟩ (fun _ _ => rfl)
set_option maxRecDepth 1000000 in
theorem ek_wn_3304 : rck 29 217 [.ref 56, .long 3304] 84 62986 [(56, O56s), (57, A57s), (61, zc_61)] (some (.int 2)) [(56, O56s), (57, A57s), (61, zc_61)] = true := by decide +kernel
theorem wn_3304 {s mc x : Int32} (hY : YH 84 62986 V h) (h56 : V 56 = O56 x) (h57 : V 57 = A57 s mc) (h61 : V 61 = zc_61) : ∃ h2, mx_Ca (tB l D b0 ad Hb tau) 29 217 [.ref 56, .long 3304] h (some (.int 2), h2) ∧ YH 84 62986 V h2 :=
  YT (fun i => if i = 0 then s.toInt64 else if i = 1 then mc.toInt64 else x.toInt64) V ek_wn_3304 rfl rfl hY ⟨⟨rfl, pe_eql h56 (pe56 rfl)⟩, ⟨rfl, pe_eql h57 (pe57 rfl rfl)⟩, ⟨rfl, pe_of h61 nfc_61⟩, True.intro⟩ ⟨(pe_eql h56 (pe56 rfl)).symm, (pe_eql h57 (pe57 rfl rfl)).symm, pe_to h61 nfc_61, True.intro⟩ (fun _ _ => rfl)
set_option maxRecDepth 1000000 in
theorem ek_wn_3305 : rck 29 217 [.ref 56, .long 3305] 84 62986 [(56, O56s), (57, A57s), (61, zc_61)] (some (.int 2)) [(56, O56s), (57, A57s), (61, zc_61)] = true := by decide +kernel
theorem wn_3305 {s mc x : Int32} (hY : YH 84 62986 V h) (h56 : V 56 = O56 x) (h57 : V 57 = A57 s mc) (h61 : V 61 = zc_61) : ∃ h2, mx_Ca (tB l D b0 ad Hb tau) 29 217 [.ref 56, .long 3305] h (some (.int 2), h2) ∧ YH 84 62986 V h2 :=
  YT (fun i => if i = 0 then s.toInt64 else if i = 1 then mc.toInt64 else x.toInt64) V ek_wn_3305 rfl rfl hY ⟨⟨rfl, pe_eql h56 (pe56 rfl)⟩, ⟨rfl, pe_eql h57 (pe57 rfl rfl)⟩, ⟨rfl, pe_of h61 nfc_61⟩, True.intro⟩ ⟨(pe_eql h56 (pe56 rfl)).symm, (pe_eql h57 (pe57 rfl rfl)).symm, pe_to h61 nfc_61, True.intro⟩ (fun _ _ => rfl)
set_option maxRecDepth 1000000 in
theorem ek_wn_3400 : rck 29 217 [.ref 56, .long 3400] 84 62986 [(56, O56s), (57, A57s), (61, zc_61)] (some (.int 1)) [(56, O56s), (57, A57s), (61, zc_61)] = true := by decide +kernel
theorem wn_3400 {s mc x : Int32} (hY : YH 84 62986 V h) (h56 : V 56 = O56 x) (h57 : V 57 = A57 s mc) (h61 : V 61 = zc_61) : ∃ h2, mx_Ca (tB l D b0 ad Hb tau) 29 217 [.ref 56, .long 3400] h (some (.int 1), h2) ∧ YH 84 62986 V h2 :=
  YT (fun i => if i = 0 then s.toInt64 else if i = 1 then mc.toInt64 else x.toInt64) V ek_wn_3400 rfl rfl hY ⟨⟨rfl, pe_eql h56 (pe56 rfl)⟩, ⟨rfl, pe_eql h57 (pe57 rfl rfl)⟩, ⟨rfl, pe_of h61 nfc_61⟩, True.intro⟩ ⟨(pe_eql h56 (pe56 rfl)).symm, (pe_eql h57 (pe57 rfl rfl)).symm, pe_to h61 nfc_61, True.intro⟩ (fun _ _ => rfl)
set_option maxRecDepth 1000000 in
theorem ek_wn_3401 : rck 29 217 [.ref 56, .long 3401] 84 62986 [(56, O56s), (57, A57s), (61, zc_61)] (some (.int 2)) [(56, O56s), (57, A57s), (61, zc_61)] = true := by decide +kernel
theorem wn_3401 {s mc x : Int32} (hY : YH 84 62986 V h) (h56 : V 56 = O56 x) (h57 : V 57 = A57 s mc) (h61 : V 61 = zc_61) : ∃ h2, mx_Ca (tB l D b0 ad Hb tau) 29 217 [.ref 56, .long 3401] h (some (.int 2), h2) ∧ YH 84 62986 V h2 :=
  YT (fun i => if i = 0 then s.toInt64 else if i = 1 then mc.toInt64 else x.toInt64) V ek_wn_3401 rfl rfl hY ⟨⟨rfl, pe_eql h56 (pe56 rfl)⟩, ⟨rfl, pe_eql h57 (pe57 rfl rfl)⟩, ⟨rfl, pe_of h61 nfc_61⟩, True.intro⟩ ⟨(pe_eql h56 (pe56 rfl)).symm, (pe_eql h57 (pe57 rfl rfl)).symm, pe_to h61 nfc_61, True.intro⟩ (fun _ _ => rfl)
set_option maxRecDepth 1000000 in
theorem ek_wn_3402 : rck 29 217 [.ref 56, .long 3402] 84 62986 [(56, O56s), (57, A57s), (61, zc_61)] (some (.int 2)) [(56, O56s), (57, A57s), (61, zc_61)] = true := by decide +kernel
theorem wn_3402 {s mc x : Int32} (hY : YH 84 62986 V h) (h56 : V 56 = O56 x) (h57 : V 57 = A57 s mc) (h61 : V 61 = zc_61) : ∃ h2, mx_Ca (tB l D b0 ad Hb tau) 29 217 [.ref 56, .long 3402] h (some (.int 2), h2) ∧ YH 84 62986 V h2 :=
  YT (fun i => if i = 0 then s.toInt64 else if i = 1 then mc.toInt64 else x.toInt64) V ek_wn_3402 rfl rfl hY ⟨⟨rfl, pe_eql h56 (pe56 rfl)⟩, ⟨rfl, pe_eql h57 (pe57 rfl rfl)⟩, ⟨rfl, pe_of h61 nfc_61⟩, True.intro⟩ ⟨(pe_eql h56 (pe56 rfl)).symm, (pe_eql h57 (pe57 rfl rfl)).symm, pe_to h61 nfc_61, True.intro⟩ (fun _ _ => rfl)
set_option maxRecDepth 1000000 in
theorem ek_wn_3403 : rck 29 217 [.ref 56, .long 3403] 84 62986 [(56, O56s), (57, A57s), (61, zc_61)] (some (.int 2)) [(56, O56s), (57, A57s), (61, zc_61)] = true := by decide +kernel
theorem wn_3403 {s mc x : Int32} (hY : YH 84 62986 V h) (h56 : V 56 = O56 x) (h57 : V 57 = A57 s mc) (h61 : V 61 = zc_61) : ∃ h2, mx_Ca (tB l D b0 ad Hb tau) 29 217 [.ref 56, .long 3403] h (some (.int 2), h2) ∧ YH 84 62986 V h2 :=
  YT (fun i => if i = 0 then s.toInt64 else if i = 1 then mc.toInt64 else x.toInt64) V ek_wn_3403 rfl rfl hY ⟨⟨rfl, pe_eql h56 (pe56 rfl)⟩, ⟨rfl, pe_eql h57 (pe57 rfl rfl)⟩, ⟨rfl, pe_of h61 nfc_61⟩, True.intro⟩ ⟨(pe_eql h56 (pe56 rfl)).symm, (pe_eql h57 (pe57 rfl rfl)).symm, pe_to h61 nfc_61, True.intro⟩ (fun _ _ => rfl)
set_option maxRecDepth 1000000 in
theorem ek_wn_3404 : rck 29 217 [.ref 56, .long 3404] 84 62986 [(56, O56s), (57, A57s), (61, zc_61)] (some (.int 2)) [(56, O56s), (57, A57s), (61, zc_61)] = true := by decide +kernel
theorem wn_3404 {s mc x : Int32} (hY : YH 84 62986 V h) (h56 : V 56 = O56 x) (h57 : V 57 = A57 s mc) (h61 : V 61 = zc_61) : ∃ h2, mx_Ca (tB l D b0 ad Hb tau) 29 217 [.ref 56, .long 3404] h (some (.int 2), h2) ∧ YH 84 62986 V h2 :=
  YT (fun i => if i = 0 then s.toInt64 else if i = 1 then mc.toInt64 else x.toInt64) V ek_wn_3404 rfl rfl hY ⟨⟨rfl, pe_eql h56 (pe56 rfl)⟩, ⟨rfl, pe_eql h57 (pe57 rfl rfl)⟩, ⟨rfl, pe_of h61 nfc_61⟩, True.intro⟩ ⟨(pe_eql h56 (pe56 rfl)).symm, (pe_eql h57 (pe57 rfl rfl)).symm, pe_to h61 nfc_61, True.intro⟩ (fun _ _ => rfl)
set_option maxRecDepth 1000000 in
theorem ek_wn_3405 : rck 29 217 [.ref 56, .long 3405] 84 62986 [(56, O56s), (57, A57s), (61, zc_61)] (some (.int 2)) [(56, O56s), (57, A57s), (61, zc_61)] = true := by decide +kernel
theorem wn_3405 {s mc x : Int32} (hY : YH 84 62986 V h) (h56 : V 56 = O56 x) (h57 : V 57 = A57 s mc) (h61 : V 61 = zc_61) : ∃ h2, mx_Ca (tB l D b0 ad Hb tau) 29 217 [.ref 56, .long 3405] h (some (.int 2), h2) ∧ YH 84 62986 V h2 :=
  YT (fun i => if i = 0 then s.toInt64 else if i = 1 then mc.toInt64 else x.toInt64) V ek_wn_3405 rfl rfl hY ⟨⟨rfl, pe_eql h56 (pe56 rfl)⟩, ⟨rfl, pe_eql h57 (pe57 rfl rfl)⟩, ⟨rfl, pe_of h61 nfc_61⟩, True.intro⟩ ⟨(pe_eql h56 (pe56 rfl)).symm, (pe_eql h57 (pe57 rfl rfl)).symm, pe_to h61 nfc_61, True.intro⟩ (fun _ _ => rfl)
set_option maxRecDepth 1000000 in
theorem ek_wn_3500 : rck 29 217 [.ref 56, .long 3500] 84 62986 [(56, O56s), (57, A57s), (61, zc_61)] (some (.int 1)) [(56, O56s), (57, A57s), (61, zc_61)] = true := by decide +kernel
theorem wn_3500 {s mc x : Int32} (hY : YH 84 62986 V h) (h56 : V 56 = O56 x) (h57 : V 57 = A57 s mc) (h61 : V 61 = zc_61) : ∃ h2, mx_Ca (tB l D b0 ad Hb tau) 29 217 [.ref 56, .long 3500] h (some (.int 1), h2) ∧ YH 84 62986 V h2 :=
  YT (fun i => if i = 0 then s.toInt64 else if i = 1 then mc.toInt64 else x.toInt64) V ek_wn_3500 rfl rfl hY ⟨⟨rfl, pe_eql h56 (pe56 rfl)⟩, ⟨rfl, pe_eql h57 (pe57 rfl rfl)⟩, ⟨rfl, pe_of h61 nfc_61⟩, True.intro⟩ ⟨(pe_eql h56 (pe56 rfl)).symm, (pe_eql h57 (pe57 rfl rfl)).symm, pe_to h61 nfc_61, True.intro⟩ (fun _ _ => rfl)
set_option maxRecDepth 1000000 in
theorem ek_wn_3501 : rck 29 217 [.ref 56, .long 3501] 84 62986 [(56, O56s), (57, A57s), (61, zc_61)] (some (.int 2)) [(56, O56s), (57, A57s), (61, zc_61)] = true := by decide +kernel
theorem wn_3501 {s mc x : Int32} (hY : YH 84 62986 V h) (h56 : V 56 = O56 x) (h57 : V 57 = A57 s mc) (h61 : V 61 = zc_61) : ∃ h2, mx_Ca (tB l D b0 ad Hb tau) 29 217 [.ref 56, .long 3501] h (some (.int 2), h2) ∧ YH 84 62986 V h2 :=
  YT (fun i => if i = 0 then s.toInt64 else if i = 1 then mc.toInt64 else x.toInt64) V ek_wn_3501 rfl rfl hY ⟨⟨rfl, pe_eql h56 (pe56 rfl)⟩, ⟨rfl, pe_eql h57 (pe57 rfl rfl)⟩, ⟨rfl, pe_of h61 nfc_61⟩, True.intro⟩ ⟨(pe_eql h56 (pe56 rfl)).symm, (pe_eql h57 (pe57 rfl rfl)).symm, pe_to h61 nfc_61, True.intro⟩ (fun _ _ => rfl)
set_option maxRecDepth 1000000 in
theorem ek_wn_3502 : rck 29 217 [.ref 56, .long 3502] 84 62986 [(56, O56s), (57, A57s), (61, zc_61)] (some (.int 2)) [(56, O56s), (57, A57s), (61, zc_61)] = true := by decide +kernel
theorem wn_3502 {s mc x : Int32} (hY : YH 84 62986 V h) (h56 : V 56 = O56 x) (h57 : V 57 = A57 s mc) (h61 : V 61 = zc_61) : ∃ h2, mx_Ca (tB l D b0 ad Hb tau) 29 217 [.ref 56, .long 3502] h (some (.int 2), h2) ∧ YH 84 62986 V h2 :=
  YT (fun i => if i = 0 then s.toInt64 else if i = 1 then mc.toInt64 else x.toInt64) V ek_wn_3502 rfl rfl hY ⟨⟨rfl, pe_eql h56 (pe56 rfl)⟩, ⟨rfl, pe_eql h57 (pe57 rfl rfl)⟩, ⟨rfl, pe_of h61 nfc_61⟩, True.intro⟩ ⟨(pe_eql h56 (pe56 rfl)).symm, (pe_eql h57 (pe57 rfl rfl)).symm, pe_to h61 nfc_61, True.intro⟩ (fun _ _ => rfl)
set_option maxRecDepth 1000000 in
theorem ek_wn_3503 : rck 29 217 [.ref 56, .long 3503] 84 62986 [(56, O56s), (57, A57s), (61, zc_61)] (some (.int 2)) [(56, O56s), (57, A57s), (61, zc_61)] = true := by decide +kernel
theorem wn_3503 {s mc x : Int32} (hY : YH 84 62986 V h) (h56 : V 56 = O56 x) (h57 : V 57 = A57 s mc) (h61 : V 61 = zc_61) : ∃ h2, mx_Ca (tB l D b0 ad Hb tau) 29 217 [.ref 56, .long 3503] h (some (.int 2), h2) ∧ YH 84 62986 V h2 :=
  YT (fun i => if i = 0 then s.toInt64 else if i = 1 then mc.toInt64 else x.toInt64) V ek_wn_3503 rfl rfl hY ⟨⟨rfl, pe_eql h56 (pe56 rfl)⟩, ⟨rfl, pe_eql h57 (pe57 rfl rfl)⟩, ⟨rfl, pe_of h61 nfc_61⟩, True.intro⟩ ⟨(pe_eql h56 (pe56 rfl)).symm, (pe_eql h57 (pe57 rfl rfl)).symm, pe_to h61 nfc_61, True.intro⟩ (fun _ _ => rfl)
set_option maxRecDepth 1000000 in
theorem ek_wn_3504 : rck 29 217 [.ref 56, .long 3504] 84 62986 [(56, O56s), (57, A57s), (61, zc_61)] (some (.int 2)) [(56, O56s), (57, A57s), (61, zc_61)] = true := by decide +kernel
theorem wn_3504 {s mc x : Int32} (hY : YH 84 62986 V h) (h56 : V 56 = O56 x) (h57 : V 57 = A57 s mc) (h61 : V 61 = zc_61) : ∃ h2, mx_Ca (tB l D b0 ad Hb tau) 29 217 [.ref 56, .long 3504] h (some (.int 2), h2) ∧ YH 84 62986 V h2 :=
  YT (fun i => if i = 0 then s.toInt64 else if i = 1 then mc.toInt64 else x.toInt64) V ek_wn_3504 rfl rfl hY ⟨⟨rfl, pe_eql h56 (pe56 rfl)⟩, ⟨rfl, pe_eql h57 (pe57 rfl rfl)⟩, ⟨rfl, pe_of h61 nfc_61⟩, True.intro⟩ ⟨(pe_eql h56 (pe56 rfl)).symm, (pe_eql h57 (pe57 rfl rfl)).symm, pe_to h61 nfc_61, True.intro⟩ (fun _ _ => rfl)
set_option maxRecDepth 1000000 in
theorem ek_wn_3505 : rck 29 217 [.ref 56, .long 3505] 84 62986 [(56, O56s), (57, A57s), (61, zc_61)] (some (.int 2)) [(56, O56s), (57, A57s), (61, zc_61)] = true := by decide +kernel
theorem wn_3505 {s mc x : Int32} (hY : YH 84 62986 V h) (h56 : V 56 = O56 x) (h57 : V 57 = A57 s mc) (h61 : V 61 = zc_61) : ∃ h2, mx_Ca (tB l D b0 ad Hb tau) 29 217 [.ref 56, .long 3505] h (some (.int 2), h2) ∧ YH 84 62986 V h2 :=
  YT (fun i => if i = 0 then s.toInt64 else if i = 1 then mc.toInt64 else x.toInt64) V ek_wn_3505 rfl rfl hY ⟨⟨rfl, pe_eql h56 (pe56 rfl)⟩, ⟨rfl, pe_eql h57 (pe57 rfl rfl)⟩, ⟨rfl, pe_of h61 nfc_61⟩, True.intro⟩ ⟨(pe_eql h56 (pe56 rfl)).symm, (pe_eql h57 (pe57 rfl rfl)).symm, pe_to h61 nfc_61, True.intro⟩ (fun _ _ => rfl)
end MC
