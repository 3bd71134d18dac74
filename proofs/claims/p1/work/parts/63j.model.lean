section MD
variable {l : Launch} {D : va_G} {b0 : Nat} {ad : Nat → Nat} {Hb : Heap} {tau : Nat → Int64} {h : mx_H} {V : Nat → mx_C}
theorem up_eq {V : Nat → mx_C} {a : Nat} {c : mx_C} : upV V a c a = c := by
  unfold upV
  rw [Nat.beq_refl]
  rfl
theorem up_ne {V : Nat → mx_C} {a k : Nat} {c : mx_C} (h : Nat.beq k a = false) : upV V a c k = V k := by
  unfold upV
  rw [h]
  rfl
theorem sg8 {s : Int32} {val : Nat → Int64} (h0 : val 0 = s.toInt64) {dv : Int32} : [Value.ref 56, .int 0, .int dv, .float 8].map (sg (tS val)) = [.ref 56, .int 0, .int dv, .int s] := by
  have hs : sg (tS val) (.float 8) = .int s := by rw [sg_f (i := 0) rfl (by decide), h0, i32_64]
  show [Value.ref 56, .int 0, .int dv, sg (tS val) (.float 8)] = _
  rw [hs]
theorem sgo0 {val : Nat → Int64} {a : Int32} : (some (Value.int a)).map (sg (tS val)) = some (.int a) := rfl
theorem nj62 (a : Bool) : (Nat.blt (62, H62 a).1 84 && mx_nj (62, H62 a).2) = true := by cases a <;> rfl
theorem nj65 (c : Bool) (t : UInt32) : (Nat.blt (65, W65s c t).1 84 && mx_nj (65, W65s c t).2) = true := rfl
set_option maxRecDepth 1000000 in
theorem ek_mt_000 : rck 27 198 [.ref 56, .int 0, .int 0, .float 8] 84 62986 [(56, O56s), (57, A57s), (61, zc_61), (62, H62 false), (65, W65s false 11)] (some (.int 0)) [(56, O56s), (57, A57s), (61, zc_61), (62, H62 true), (65, W65s true 8)] = true := by decide +kernel
set_option maxRecDepth 1000000 in
theorem ek_mt_001 : rck 27 198 [.ref 56, .int 0, .int 0, .float 8] 84 62986 [(56, O56s), (57, A57s), (61, zc_61), (62, H62 false), (65, W65s true 11)] (some (.int 0)) [(56, O56s), (57, A57s), (61, zc_61), (62, H62 true), (65, W65s true 8)] = true := by decide +kernel
set_option maxRecDepth 1000000 in
theorem ek_mt_010 : rck 27 198 [.ref 56, .int 0, .int 0, .float 8] 84 62986 [(56, O56s), (57, A57s), (61, zc_61), (62, H62 true), (65, W65s false 11)] (some (.int 0)) [(56, O56s), (57, A57s), (61, zc_61), (62, H62 true), (65, W65s true 8)] = true := by decide +kernel
set_option maxRecDepth 1000000 in
theorem ek_mt_011 : rck 27 198 [.ref 56, .int 0, .int 0, .float 8] 84 62986 [(56, O56s), (57, A57s), (61, zc_61), (62, H62 true), (65, W65s true 11)] (some (.int 0)) [(56, O56s), (57, A57s), (61, zc_61), (62, H62 true), (65, W65s true 8)] = true := by decide +kernel
theorem ekm_0 (a c : Bool) : rck 27 198 [.ref 56, .int 0, .int 0, .float 8] 84 62986 [(56, O56s), (57, A57s), (61, zc_61), (62, H62 a), (65, W65s c 11)] (some (.int 0)) [(56, O56s), (57, A57s), (61, zc_61), (62, H62 true), (65, W65s true 8)] = true := by
  cases a <;> cases c
  · exact ek_mt_000
  · exact ek_mt_001
  · exact ek_mt_010
  · exact ek_mt_011
theorem mt_0 {s mc x w : Int32} {a c : Bool} (hY : YH 84 62986 V h) (h56 : V 56 = O56 x) (h57 : V 57 = A57 s mc) (h61 : V 61 = zc_61) (h62 : V 62 = H62 a) (h65 : V 65 = W65 c w) : ∃ h2, mx_Ca (tB l D b0 ad Hb tau) 27 198 [.ref 56, .int 0, .int 0, .int s] h (some (.int 0), h2) ∧ YH 84 62986 (upV (upV V 62 (H62 true)) 65 (W65 true s)) h2 := by
  have k56 : mx_pe (O56 x) (sgC (tS (fun i => if i = 0 then s.toInt64 else if i = 1 then mc.toInt64 else if i = 2 then x.toInt64 else w.toInt64)) O56s) := pe56 rfl
  have k57 : mx_pe (A57 s mc) (sgC (tS (fun i => if i = 0 then s.toInt64 else if i = 1 then mc.toInt64 else if i = 2 then x.toInt64 else w.toInt64)) A57s) := pe57 rfl rfl
  have k65 : mx_pe (W65 c w) (sgC (tS (fun i => if i = 0 then s.toInt64 else if i = 1 then mc.toInt64 else if i = 2 then x.toInt64 else w.toInt64)) (W65s c 11)) := pe65 (i := 3) rfl (by decide) rfl
  have q65 : mx_pe (sgC (tS (fun i => if i = 0 then s.toInt64 else if i = 1 then mc.toInt64 else if i = 2 then x.toInt64 else w.toInt64)) (W65s true 8)) (W65 true s) := (pe65 (i := 0) rfl (by decide) rfl).symm
  have k8 := sg8 (s := s) (val := fun i => if i = 0 then s.toInt64 else if i = 1 then mc.toInt64 else if i = 2 then x.toInt64 else w.toInt64) (dv := 0) rfl
  have ek : rck 27 198 [.ref 56, .int 0, .int 0, .float 8] 84 62986 [(56, O56s), (57, A57s), (61, zc_61), (62, H62 a), (65, W65s c 11)] (some (.int 0)) [(56, O56s), (57, A57s), (61, zc_61), (62, H62 true), (65, W65s true 8)] = true := ekm_0 a c
  generalize (fun i => if i = 0 then s.toInt64 else if i = 1 then mc.toInt64 else if i = 2 then x.toInt64 else w.toInt64) = vl at k56 k57 k65 q65 k8
  have e62 : (upV (upV V 62 (H62 true)) 65 (W65 true s)) 62 = H62 true := (up_ne rfl).trans up_eq
  have e56 : (upV (upV V 62 (H62 true)) 65 (W65 true s)) 56 = O56 x := h56
  have e57 : (upV (upV V 62 (H62 true)) 65 (W65 true s)) 57 = A57 s mc := h57
  have e61 : (upV (upV V 62 (H62 true)) 65 (W65 true s)) 61 = zc_61 := h61
  exact YT vl (upV (upV V 62 (H62 true)) 65 (W65 true s)) ek k8 sgo0 hY ⟨⟨rfl, pe_eql h56 k56⟩, ⟨rfl, pe_eql h57 k57⟩, ⟨rfl, pe_of h61 nfc_61⟩, ⟨nj62 a, pe_of h62 (nfH62 a)⟩, ⟨nj65 c 11, pe_eql h65 k65⟩, True.intro⟩ ⟨(pe_eql e56 k56).symm, (pe_eql e57 k57).symm, pe_to e61 nfc_61, pe_to e62 (nfH62 true), q65, True.intro⟩ (fun k hk => (up_no (a := 65) rfl hk).trans (up_no (a := 62) rfl hk))
set_option maxRecDepth 1000000 in
theorem ek_mt_100 : rck 27 198 [.ref 56, .int 0, .int 1, .float 8] 84 62986 [(56, O56s), (57, A57s), (61, zc_61), (62, H62 false), (65, W65s false 11)] (some (.int 0)) [(56, O56s), (57, A57s), (61, zc_61), (62, H62 true), (65, W65s false 11)] = true := by decide +kernel
set_option maxRecDepth 1000000 in
theorem ek_mt_101 : rck 27 198 [.ref 56, .int 0, .int 1, .float 8] 84 62986 [(56, O56s), (57, A57s), (61, zc_61), (62, H62 false), (65, W65s true 11)] (some (.int 0)) [(56, O56s), (57, A57s), (61, zc_61), (62, H62 true), (65, W65s true 11)] = true := by decide +kernel
set_option maxRecDepth 1000000 in
theorem ek_mt_110 : rck 27 198 [.ref 56, .int 0, .int 1, .float 8] 84 62986 [(56, O56s), (57, A57s), (61, zc_61), (62, H62 true), (65, W65s false 11)] (some (.int 0)) [(56, O56s), (57, A57s), (61, zc_61), (62, H62 true), (65, W65s false 11)] = true := by decide +kernel
set_option maxRecDepth 1000000 in
theorem ek_mt_111 : rck 27 198 [.ref 56, .int 0, .int 1, .float 8] 84 62986 [(56, O56s), (57, A57s), (61, zc_61), (62, H62 true), (65, W65s true 11)] (some (.int 0)) [(56, O56s), (57, A57s), (61, zc_61), (62, H62 true), (65, W65s true 11)] = true := by decide +kernel
theorem ekm_1 (a c : Bool) : rck 27 198 [.ref 56, .int 0, .int 1, .float 8] 84 62986 [(56, O56s), (57, A57s), (61, zc_61), (62, H62 a), (65, W65s c 11)] (some (.int 0)) [(56, O56s), (57, A57s), (61, zc_61), (62, H62 true), (65, W65s c 11)] = true := by
  cases a <;> cases c
  · exact ek_mt_100
  · exact ek_mt_101
  · exact ek_mt_110
  · exact ek_mt_111
theorem mt_1 {s mc x w : Int32} {a c : Bool} (hY : YH 84 62986 V h) (h56 : V 56 = O56 x) (h57 : V 57 = A57 s mc) (h61 : V 61 = zc_61) (h62 : V 62 = H62 a) (h65 : V 65 = W65 c w) : ∃ h2, mx_Ca (tB l D b0 ad Hb tau) 27 198 [.ref 56, .int 0, .int 1, .int s] h (some (.int 0), h2) ∧ YH 84 62986 (upV (upV V 62 (H62 true)) 65 (W65 c w)) h2 := by
  have k56 : mx_pe (O56 x) (sgC (tS (fun i => if i = 0 then s.toInt64 else if i = 1 then mc.toInt64 else if i = 2 then x.toInt64 else w.toInt64)) O56s) := pe56 rfl
  have k57 : mx_pe (A57 s mc) (sgC (tS (fun i => if i = 0 then s.toInt64 else if i = 1 then mc.toInt64 else if i = 2 then x.toInt64 else w.toInt64)) A57s) := pe57 rfl rfl
  have k65 : mx_pe (W65 c w) (sgC (tS (fun i => if i = 0 then s.toInt64 else if i = 1 then mc.toInt64 else if i = 2 then x.toInt64 else w.toInt64)) (W65s c 11)) := pe65 (i := 3) rfl (by decide) rfl
  have q65 : mx_pe (sgC (tS (fun i => if i = 0 then s.toInt64 else if i = 1 then mc.toInt64 else if i = 2 then x.toInt64 else w.toInt64)) (W65s c 11)) (W65 c w) := (pe65 (i := 3) rfl (by decide) rfl).symm
  have k8 := sg8 (s := s) (val := fun i => if i = 0 then s.toInt64 else if i = 1 then mc.toInt64 else if i = 2 then x.toInt64 else w.toInt64) (dv := 1) rfl
  have ek : rck 27 198 [.ref 56, .int 0, .int 1, .float 8] 84 62986 [(56, O56s), (57, A57s), (61, zc_61), (62, H62 a), (65, W65s c 11)] (some (.int 0)) [(56, O56s), (57, A57s), (61, zc_61), (62, H62 true), (65, W65s c 11)] = true := ekm_1 a c
  generalize (fun i => if i = 0 then s.toInt64 else if i = 1 then mc.toInt64 else if i = 2 then x.toInt64 else w.toInt64) = vl at k56 k57 k65 q65 k8
  have e62 : (upV (upV V 62 (H62 true)) 65 (W65 c w)) 62 = H62 true := (up_ne rfl).trans up_eq
  have e56 : (upV (upV V 62 (H62 true)) 65 (W65 c w)) 56 = O56 x := h56
  have e57 : (upV (upV V 62 (H62 true)) 65 (W65 c w)) 57 = A57 s mc := h57
  have e61 : (upV (upV V 62 (H62 true)) 65 (W65 c w)) 61 = zc_61 := h61
  exact YT vl (upV (upV V 62 (H62 true)) 65 (W65 c w)) ek k8 sgo0 hY ⟨⟨rfl, pe_eql h56 k56⟩, ⟨rfl, pe_eql h57 k57⟩, ⟨rfl, pe_of h61 nfc_61⟩, ⟨nj62 a, pe_of h62 (nfH62 a)⟩, ⟨nj65 c 11, pe_eql h65 k65⟩, True.intro⟩ ⟨(pe_eql e56 k56).symm, (pe_eql e57 k57).symm, pe_to e61 nfc_61, pe_to e62 (nfH62 true), q65, True.intro⟩ (fun k hk => (up_no (a := 65) rfl hk).trans (up_no (a := 62) rfl hk))
set_option maxRecDepth 1000000 in
theorem ek_st : rck 29 202 [.ref 56] 84 62986 [(56, zc_56), (57, zc_57), (66, zc_66)] none [(56, zc_56), (57, zc_57), (66, zc_66)] = true := by decide +kernel
theorem cl_st (hY : YH 84 62986 V h) (h56 : V 56 = zc_56) (h57 : V 57 = zc_57) (h66 : V 66 = zc_66) : ∃ h2, mx_Ca (tB l D b0 ad Hb tau) 29 202 [.ref 56] h (none, h2) ∧ YH 84 62986 V h2 := YT0 ek_st rfl rfl hY ⟨⟨nf_56, h56⟩, ⟨nf_57, h57⟩, ⟨nf_66, h66⟩, True.intro⟩
noncomputable def A57n : mx_C := ar 2886 (mx_set 13 (mx_set 13 (mx_set 13 T57 28 (.float 8)) 29 (.float 9)) 30 (.int 1))
set_option maxRecDepth 1000000 in
theorem ek_no : rck 29 204 [.ref 56] 84 62986 [(56, O56s), (57, A57s), (66, zc_66)] none [(56, O56s), (57, A57n), (66, zc_66)] = true := by decide +kernel
theorem cl_no {s mc x : Int32} (hY : YH 84 62986 V h) (h56 : V 56 = O56 x) (h57 : V 57 = A57 s mc) (h66 : V 66 = zc_66) : ∃ h2, mx_Ca (tB l D b0 ad Hb tau) 29 204 [.ref 56] h (none, h2) ∧ ∃ V2, YH 84 62986 V2 h2 := by
  obtain ⟨h2, hca, hY2⟩ := YT (l := l) (D := D) (b0 := b0) (ad := ad) (Hb := Hb) (tau := tau) (fun i => if i = 0 then s.toInt64 else if i = 1 then mc.toInt64 else x.toInt64) (upV V 57 (sgC (tS (fun i => if i = 0 then s.toInt64 else if i = 1 then mc.toInt64 else x.toInt64)) A57n)) ek_no (as2 := [.ref 56]) (v2 := none) rfl rfl hY ⟨⟨rfl, pe_eql h56 (pe56 rfl)⟩, ⟨rfl, pe_eql h57 (pe57 rfl rfl)⟩, ⟨rfl, pe_of h66 nfc_66⟩, True.intro⟩ ⟨(pe_eql (show upV V 57 _ 56 = O56 x from h56) (pe56 rfl)).symm, Or.inl rfl, pe_to (show upV V 57 _ 66 = zc_66 from h66) nfc_66, True.intro⟩ (fun k hk => up_no (a := 57) rfl hk)
  exact ⟨h2, hca, _, hY2⟩
end MD
