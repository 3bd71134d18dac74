def nxx (x : Int32) : Int32 := 1103515245 * x + 12345
def dq (x : Int32) : Int32 := (x.toUInt32 >>> ((16 : Int32).toUInt32 &&& Int32.toUInt32 31)).toInt32
def dr (x m : Int32) : Int32 := dq x - dq x / m * m
theorem dq_n (x : Int32) : ∃ q, q < 65536 ∧ dq x = nI q := by
  refine ⟨(x.toUInt32 >>> ((16 : Int32).toUInt32 &&& Int32.toUInt32 31)).toNat, ?_, ?_⟩
  · have hs : (16 : Int32).toUInt32 &&& Int32.toUInt32 31 = 16 := by decide +kernel
    rw [hs, UInt32.toNat_shiftRight, show (16 : UInt32).toNat % 32 = 16 from rfl, Nat.shiftRight_eq_div_pow]
    have := x.toUInt32.toNat_lt
    omega
  · exact (congrArg UInt32.toInt32 (UInt32.ofNat_toNat (x := x.toUInt32 >>> ((16 : Int32).toUInt32 &&& Int32.toUInt32 31)))).symm
theorem dr_in (x m : Int32) {mm : Nat} (hm : m = nI mm) (h0 : 0 < mm) (h1 : mm < 100) : ∃ n, n < mm ∧ dr x m = nI n := by
  obtain ⟨q, hq, e⟩ := dq_n x
  refine ⟨q % mm, Nat.mod_lt _ h0, ?_⟩
  unfold dr
  rw [e, hm, pk_rem (by omega) h0 (by omega)]
/-- a drawn deed, and the number behind it -/
def nd (x : Int32) : Int32 × Int32 := if dr (nxx x) 6 = 3 then (dr (nxx (nxx x)) 8, nxx (nxx x)) else if dr (nxx x) 6 = 4 then (20 + dr (nxx (nxx x)) 10, nxx (nxx x)) else if dr (nxx x) 6 = 5 then (3000 + 100 * dr (nxx (nxx x)) 6 + dr (nxx (nxx (nxx x))) 6, nxx (nxx (nxx x))) else (0, nxx x)
def can (v : Int32) : Bool := decide (v = 0 ∨ v = 1 ∨ (20 ≤ v ∧ v ≤ 29))
def yr : Nat → Int32 → Int32 → Int32
  | 0, _, c => c
  | r + 1, x, c => yr r (nd x).2 (if can (nd x).1 = true then c + 1 else c)
def DL : List Int32 := [0, 1, 2, 3, 4, 5, 6, 7, 20, 21, 22, 23, 24, 25, 26, 27, 28, 29, 3000, 3001, 3002, 3003, 3004, 3005, 3100, 3101, 3102, 3103, 3104, 3105, 3200, 3201, 3202, 3203, 3204, 3205, 3300, 3301, 3302, 3303, 3304, 3305, 3400, 3401, 3402, 3403, 3404, 3405, 3500, 3501, 3502, 3503, 3504, 3505]
theorem dm_8 : ∀ n, n < 8 → nI n ∈ DL := by decide +kernel
theorem dm_10 : ∀ n, n < 10 → 20 + nI n ∈ DL := by decide +kernel
theorem dm_36 : ∀ a, a < 6 → ∀ b, b < 6 → 3000 + 100 * nI a + nI b ∈ DL := by decide +kernel
theorem nd_in (x : Int32) : (nd x).1 ∈ DL := by
  unfold nd
  by_cases h3 : dr (nxx x) 6 = 3
  · rw [if_pos h3]
    obtain ⟨n, hn, e⟩ := dr_in (nxx (nxx x)) 8 (mm := 8) (by decide +kernel) (by decide) (by decide)
    show dr (nxx (nxx x)) 8 ∈ DL
    rw [e]; exact dm_8 n hn
  · rw [if_neg h3]
    by_cases h4 : dr (nxx x) 6 = 4
    · rw [if_pos h4]
      obtain ⟨n, hn, e⟩ := dr_in (nxx (nxx x)) 10 (mm := 10) (by decide +kernel) (by decide) (by decide)
      show 20 + dr (nxx (nxx x)) 10 ∈ DL
      rw [e]; exact dm_10 n hn
    · rw [if_neg h4]
      by_cases h5 : dr (nxx x) 6 = 5
      · rw [if_pos h5]
        obtain ⟨a, ha, e⟩ := dr_in (nxx (nxx x)) 6 (mm := 6) (by decide +kernel) (by decide) (by decide)
        obtain ⟨b, hb, e2⟩ := dr_in (nxx (nxx (nxx x))) 6 (mm := 6) (by decide +kernel) (by decide) (by decide)
        show 3000 + 100 * dr (nxx (nxx x)) 6 + dr (nxx (nxx (nxx x))) 6 ∈ DL
        rw [e, e2]; exact dm_36 a ha b hb
      · rw [if_neg h5]
        exact dm_8 0 (by decide)
section WK3
variable {l : Launch} {D : va_G} {b0 : Nat} {ad : Nat → Nat} {Hb : Heap} {tau : Nat → Int64} {h : mx_H} {V : Nat → mx_C}
set_option maxHeartbeats 300000 in
set_option maxRecDepth 100000 in
theorem jt_11 {d2 : Nat} {x y : Int32} (hY : YH 84 62986 V h) (h83 : V 83 = .inl (1, [.int y])) : ∃ h2, mx_Ca (tB l D b0 ad Hb tau) (d2 + 1 + 1) 11 [.ref 83, .int x] h (none, h2) ∧ YH 84 62986 (upV V 83 (.inl (1, [.int x]))) h2 := by
  refine Jm (M := (prog_3_method_1_code, 2, "TitheHeap$Draws", "<init>", (Option.none : Option Jvm.ClassFile.FieldType))) rfl rfl rfl rfl rfl ?_
  show mx_J _ _ _ 0 [some (.ref 83), some (.int x)] [] h _
  refine mx_J.step (sn_11 0) (fun _ _ => rfl) ?_
  refine Jobj (show mx_Sn _ _ 1 (mx_objinit 4) from sn_11 1) ⟨d2, rfl⟩ rfl ?_
  refine mx_J.step (sn_11 4) (fun _ _ => rfl) ?_
  refine mx_J.step (sn_11 5) (fun _ _ => rfl) ?_
  refine Jputf hY (show mx_Sn _ _ 6 (mx_putf 1 1 0 (.int) 9) from sn_11 6) rfl rfl h83 rfl (fun h hY => ?_)
  exact mx_J.ret (sn_11 9) (fun _ _ => rfl) ⟨rfl, hY⟩
set_option maxHeartbeats 300000 in
set_option maxRecDepth 100000 in
theorem jt_12 {d : Nat} {x m : Int32} (hY : YH 84 62986 V h) (h83 : V 83 = .inl (1, [.int x])) (hm : ¬ m = 0) : ∃ h2, mx_Ca (tB l D b0 ad Hb tau) (d + 1) 12 [.ref 83, .int m] h (some (.int (dr (nxx x) m)), h2) ∧ YH 84 62986 (upV V 83 (.inl (1, [.int (nxx x)]))) h2 := by
  refine Jm (M := (prog_3_method_2_code, 2, "TitheHeap$Draws", "draw", (Option.some Jvm.ClassFile.FieldType.int))) rfl rfl rfl rfl rfl ?_
  show mx_J _ _ _ 0 [some (.ref 83), some (.int m)] [] h _
  refine mx_J.step (sn_12 0) (fun _ _ => rfl) ?_
  refine mx_J.step (sn_12 1) (fun _ _ => rfl) ?_
  refine mx_J.step (sn_12 3) (fun _ _ => rfl) ?_
  refine Jgetf hY (show mx_Sn _ _ 4 (mx_getf 1 0 7) from sn_12 4) rfl h83 rfl ?_
  refine mx_J.step (sn_12 7) (fun _ _ => rfl) ?_
  refine mx_J.step (sn_12 8) (fun _ _ => rfl) ?_
  refine mx_J.step (sn_12 11) (fun _ _ => rfl) ?_
  refine Jputf hY (show mx_Sn _ _ 12 (mx_putf 1 1 0 (.int) 15) from sn_12 12) rfl rfl h83 rfl (fun h hY => ?_)
  refine mx_J.step (sn_12 15) (fun _ _ => rfl) ?_
  refine Jgetf hY (show mx_Sn _ _ 16 (mx_getf 1 0 19) from sn_12 16) rfl rfl rfl ?_
  refine mx_J.step (sn_12 19) (fun _ _ => rfl) ?_
  refine mx_J.step (sn_12 21) (fun _ _ => rfl) ?_
  refine mx_J.step (sn_12 22) (fun _ _ => rfl) ?_
  refine Jirem (show mx_Sn _ _ 23 (mx_irem 24) from sn_12 23) hm ?_
  exact mx_J.ret (sn_12 24) (fun _ _ => rfl) ⟨rfl, hY⟩
set_option maxHeartbeats 300000 in
set_option maxRecDepth 100000 in
theorem jt_13 {x : Int32} (hY : YH 84 62986 V h) (h83 : V 83 = .inl (1, [.int x])) : ∃ h2, mx_Ca (tB l D b0 ad Hb tau) 29 13 [.ref 83] h (some (.int (nd x).1), h2) ∧ ∃ V2, YH 84 62986 V2 h2 ∧ fr [83] V V2 ∧ V2 83 = .inl (1, [.int (nd x).2]) := by
  refine Jm (M := (prog_3_method_3_code, 3, "TitheHeap$Draws", "nextDeed", (Option.some Jvm.ClassFile.FieldType.int))) rfl rfl rfl rfl rfl ?_
  show mx_J _ _ _ 0 [some (.ref 83), none, none] [] h _
  refine mx_J.step (sn_13 0) (fun _ _ => rfl) ?_
  refine mx_J.step (sn_13 1) (fun _ _ => rfl) ?_
  obtain ⟨h1, hca, hY1⟩ := jt_12 (d := 27) (m := 6) hY h83 (by decide +kernel)
  refine Jcallv (b := 83) hY (show mx_Sn _ _ 3 (mx_callv 12 2 1 6) from sn_13 3) rfl h83 hca rfl rfl ?_
  have hY := hY1
  refine mx_J.step (sn_13 6) (fun _ _ => rfl) ?_
  refine mx_J.step (sn_13 7) (fun _ _ => rfl) ?_
  refine mx_J.step (sn_13 8) (fun _ _ => rfl) ?_
  by_cases h3 : dr (nxx x) 6 = 3
  · refine Jicmp_ne_f (show mx_Sn _ _ 9 (mx_icmp_ne 19 12) from sn_13 9) (fun z => z h3) ?_
    refine mx_J.step (sn_13 12) (fun _ _ => rfl) ?_
    refine mx_J.step (sn_13 13) (fun _ _ => rfl) ?_
    obtain ⟨h1, hca, hY1⟩ := jt_12 (d := 27) (m := 8) hY rfl (by decide +kernel)
    refine Jcallv (b := 83) hY (show mx_Sn _ _ 15 (mx_callv 12 2 1 18) from sn_13 15) rfl rfl hca rfl rfl ?_
    have hY := hY1
    exact mx_J.ret (sn_13 18) (fun _ _ => rfl) ⟨by show some (Value.int (dr (nxx (nxx x)) 8)) = _; unfold nd; rw [if_pos h3], _, hY, frY (l := [83]) hY (fr.up (fr.up fr.rfl' rfl) rfl), by show (Sum.inl (1, [Value.int (nxx (nxx x))]) : mx_C) = _; unfold nd; rw [if_pos h3]⟩
  · refine Jicmp_ne_t (show mx_Sn _ _ 9 (mx_icmp_ne 19 12) from sn_13 9) h3 ?_
    refine mx_J.step (sn_13 19) (fun _ _ => rfl) ?_
    refine mx_J.step (sn_13 20) (fun _ _ => rfl) ?_
    by_cases h4 : dr (nxx x) 6 = 4
    · refine Jicmp_ne_f (show mx_Sn _ _ 21 (mx_icmp_ne 34 24) from sn_13 21) (fun z => z h4) ?_
      refine mx_J.step (sn_13 24) (fun _ _ => rfl) ?_
      refine mx_J.step (sn_13 26) (fun _ _ => rfl) ?_
      refine mx_J.step (sn_13 27) (fun _ _ => rfl) ?_
      obtain ⟨h1, hca, hY1⟩ := jt_12 (d := 27) (m := 10) hY rfl (by decide +kernel)
      refine Jcallv (b := 83) hY (show mx_Sn _ _ 29 (mx_callv 12 2 1 32) from sn_13 29) rfl rfl hca rfl rfl ?_
      have hY := hY1
      refine mx_J.step (sn_13 32) (fun _ _ => rfl) ?_
      exact mx_J.ret (sn_13 33) (fun _ _ => rfl) ⟨by show some (Value.int (20 + dr (nxx (nxx x)) 10)) = _; unfold nd; rw [if_neg h3, if_pos h4], _, hY, frY (l := [83]) hY (fr.up (fr.up fr.rfl' rfl) rfl), by show (Sum.inl (1, [Value.int (nxx (nxx x))]) : mx_C) = _; unfold nd; rw [if_neg h3, if_pos h4]⟩
    · refine Jicmp_ne_t (show mx_Sn _ _ 21 (mx_icmp_ne 34 24) from sn_13 21) h4 ?_
      refine mx_J.step (sn_13 34) (fun _ _ => rfl) ?_
      refine mx_J.step (sn_13 35) (fun _ _ => rfl) ?_
      by_cases h5 : dr (nxx x) 6 = 5
      · refine Jicmp_ne_f (show mx_Sn _ _ 36 (mx_icmp_ne 62 39) from sn_13 36) (fun z => z h5) ?_
        refine mx_J.step (sn_13 39) (fun _ _ => rfl) ?_
        refine mx_J.step (sn_13 40) (fun _ _ => rfl) ?_
        obtain ⟨h1, hca, hY1⟩ := jt_12 (d := 27) (m := 6) hY rfl (by decide +kernel)
        refine Jcallv (b := 83) hY (show mx_Sn _ _ 42 (mx_callv 12 2 1 45) from sn_13 42) rfl rfl hca rfl rfl ?_
        have hY := hY1
        refine mx_J.step (sn_13 45) (fun _ _ => rfl) ?_
        refine mx_J.step (sn_13 46) (fun _ _ => rfl) ?_
        refine mx_J.step (sn_13 49) (fun _ _ => rfl) ?_
        refine mx_J.step (sn_13 51) (fun _ _ => rfl) ?_
        refine mx_J.step (sn_13 52) (fun _ _ => rfl) ?_
        refine mx_J.step (sn_13 53) (fun _ _ => rfl) ?_
        refine mx_J.step (sn_13 54) (fun _ _ => rfl) ?_
        refine mx_J.step (sn_13 55) (fun _ _ => rfl) ?_
        obtain ⟨h1, hca, hY1⟩ := jt_12 (d := 27) (m := 6) hY rfl (by decide +kernel)
        refine Jcallv (b := 83) hY (show mx_Sn _ _ 57 (mx_callv 12 2 1 60) from sn_13 57) rfl rfl hca rfl rfl ?_
        have hY := hY1
        refine mx_J.step (sn_13 60) (fun _ _ => rfl) ?_
        exact mx_J.ret (sn_13 61) (fun _ _ => rfl) ⟨by show some (Value.int (3000 + 100 * dr (nxx (nxx x)) 6 + dr (nxx (nxx (nxx x))) 6)) = _; unfold nd; rw [if_neg h3, if_neg h4, if_pos h5], _, hY, frY (l := [83]) hY (fr.up (fr.up (fr.up fr.rfl' rfl) rfl) rfl), by show (Sum.inl (1, [Value.int (nxx (nxx (nxx x)))]) : mx_C) = _; unfold nd; rw [if_neg h3, if_neg h4, if_pos h5]⟩
      · refine Jicmp_ne_t (show mx_Sn _ _ 36 (mx_icmp_ne 62 39) from sn_13 36) h5 ?_
        refine mx_J.step (sn_13 62) (fun _ _ => rfl) ?_
        exact mx_J.ret (sn_13 63) (fun _ _ => rfl) ⟨by show some (Value.int 0) = _; unfold nd; rw [if_neg h3, if_neg h4, if_neg h5], _, hY, frY (l := [83]) hY (fr.up fr.rfl' rfl), by show (Sum.inl (1, [Value.int (nxx x)]) : mx_C) = _; unfold nd; rw [if_neg h3, if_neg h4, if_neg h5]⟩
set_option maxHeartbeats 300000 in
set_option maxRecDepth 100000 in
theorem jt_33a {d n s : Nat} (hY : YH n s V h) (hn : 83 ≤ n) (h38 : V 38 = zc_38) (h36 : V 36 = zc_36) : ∃ h2, mx_Ca (tB l D b0 ad Hb tau) (d + 1) 33 [.ref 38, .ref 36] h (none, h2) ∧ ∃ V2, YH n s V2 h2 ∧ fr [38] V V2 ∧ V2 38 = D38 0 0 := by
  refine Jm (M := (prog_7_method_2_code, 2, "TitheHeap$Moment", "copy", (Option.none : Option Jvm.ClassFile.FieldType))) rfl rfl rfl rfl rfl ?_
  show mx_J _ _ _ 0 [some (.ref 38), some (.ref 36)] [] h _
  refine mx_J.step (sn_33 0) (fun _ _ => rfl) ?_
  refine mx_J.step (sn_33 1) (fun _ _ => rfl) ?_
  refine Jgetf hY (show mx_Sn _ _ 2 (mx_getf 5 0 5) from sn_33 2) (bl hn rfl) h36 rfl ?_
  refine Jputf hY (show mx_Sn _ _ 5 (mx_putf 1 5 0 (.object "TitheHeap$Laws") 8) from sn_33 5) (bl hn rfl) rfl h38 rfl (fun h hY => ?_)
  refine mx_J.step (sn_33 8) (fun _ _ => rfl) ?_
  refine mx_J.step (sn_33 9) (fun _ _ => rfl) ?_
  refine Jgetf hY (show mx_Sn _ _ 10 (mx_getf 5 1 13) from sn_33 10) (bl hn rfl) h36 rfl ?_
  refine Jputf hY (show mx_Sn _ _ 13 (mx_putf 1 5 1 (.int) 16) from sn_33 13) (bl hn rfl) rfl rfl rfl (fun h hY => ?_)
  refine mx_J.step (sn_33 16) (fun _ _ => rfl) ?_
  refine mx_J.step (sn_33 17) (fun _ _ => rfl) ?_
  refine Jgetf hY (show mx_Sn _ _ 18 (mx_getf 5 2 21) from sn_33 18) (bl hn rfl) h36 rfl ?_
  refine Jputf hY (show mx_Sn _ _ 21 (mx_putf 1 5 2 (.int) 24) from sn_33 21) (bl hn rfl) rfl rfl rfl (fun h hY => ?_)
  refine mx_J.step (sn_33 24) (fun _ _ => rfl) ?_
  refine mx_J.step (sn_33 25) (fun _ _ => rfl) ?_
  refine Jgetf hY (show mx_Sn _ _ 26 (mx_getf 5 3 29) from sn_33 26) (bl hn rfl) h36 rfl ?_
  refine Jputf hY (show mx_Sn _ _ 29 (mx_putf 1 5 3 (.int) 32) from sn_33 29) (bl hn rfl) rfl rfl rfl (fun h hY => ?_)
  refine mx_J.step (sn_33 32) (fun _ _ => rfl) ?_
  refine mx_J.step (sn_33 33) (fun _ _ => rfl) ?_
  refine Jgetf hY (show mx_Sn _ _ 34 (mx_getf 5 4 37) from sn_33 34) (bl hn rfl) h36 rfl ?_
  refine Jputf hY (show mx_Sn _ _ 37 (mx_putf 1 5 4 (.int) 40) from sn_33 37) (bl hn rfl) rfl rfl rfl (fun h hY => ?_)
  exact mx_J.ret (sn_33 40) (fun _ _ => rfl) ⟨rfl, _, hY, frY (l := [38]) hY (fr.up (fr.up (fr.up (fr.up (fr.up fr.rfl' rfl) rfl) rfl) rfl) rfl), rfl⟩
set_option maxHeartbeats 300000 in
set_option maxRecDepth 100000 in
theorem jt_33b {d n s : Nat} {t mc : Int32} (hY : YH n s V h) (hn : 83 ≤ n) (h38 : V 38 = D38 t mc) (h36 : V 36 = zc_36) : ∃ h2, mx_Ca (tB l D b0 ad Hb tau) (d + 1) 33 [.ref 36, .ref 38] h (none, h2) ∧ ∃ V2, YH n s V2 h2 ∧ fr [36] V V2 ∧ V2 36 = D38 t mc := by
  refine Jm (M := (prog_7_method_2_code, 2, "TitheHeap$Moment", "copy", (Option.none : Option Jvm.ClassFile.FieldType))) rfl rfl rfl rfl rfl ?_
  show mx_J _ _ _ 0 [some (.ref 36), some (.ref 38)] [] h _
  refine mx_J.step (sn_33 0) (fun _ _ => rfl) ?_
  refine mx_J.step (sn_33 1) (fun _ _ => rfl) ?_
  refine Jgetf hY (show mx_Sn _ _ 2 (mx_getf 5 0 5) from sn_33 2) (bl hn rfl) h38 rfl ?_
  refine Jputf hY (show mx_Sn _ _ 5 (mx_putf 1 5 0 (.object "TitheHeap$Laws") 8) from sn_33 5) (bl hn rfl) rfl h36 rfl (fun h hY => ?_)
  refine mx_J.step (sn_33 8) (fun _ _ => rfl) ?_
  refine mx_J.step (sn_33 9) (fun _ _ => rfl) ?_
  refine Jgetf hY (show mx_Sn _ _ 10 (mx_getf 5 1 13) from sn_33 10) (bl hn rfl) h38 rfl ?_
  refine Jputf hY (show mx_Sn _ _ 13 (mx_putf 1 5 1 (.int) 16) from sn_33 13) (bl hn rfl) rfl rfl rfl (fun h hY => ?_)
  refine mx_J.step (sn_33 16) (fun _ _ => rfl) ?_
  refine mx_J.step (sn_33 17) (fun _ _ => rfl) ?_
  refine Jgetf hY (show mx_Sn _ _ 18 (mx_getf 5 2 21) from sn_33 18) (bl hn rfl) h38 rfl ?_
  refine Jputf hY (show mx_Sn _ _ 21 (mx_putf 1 5 2 (.int) 24) from sn_33 21) (bl hn rfl) rfl rfl rfl (fun h hY => ?_)
  refine mx_J.step (sn_33 24) (fun _ _ => rfl) ?_
  refine mx_J.step (sn_33 25) (fun _ _ => rfl) ?_
  refine Jgetf hY (show mx_Sn _ _ 26 (mx_getf 5 3 29) from sn_33 26) (bl hn rfl) h38 rfl ?_
  refine Jputf hY (show mx_Sn _ _ 29 (mx_putf 1 5 3 (.int) 32) from sn_33 29) (bl hn rfl) rfl rfl rfl (fun h hY => ?_)
  refine mx_J.step (sn_33 32) (fun _ _ => rfl) ?_
  refine mx_J.step (sn_33 33) (fun _ _ => rfl) ?_
  refine Jgetf hY (show mx_Sn _ _ 34 (mx_getf 5 4 37) from sn_33 34) (bl hn rfl) h38 rfl ?_
  refine Jputf hY (show mx_Sn _ _ 37 (mx_putf 1 5 4 (.int) 40) from sn_33 37) (bl hn rfl) rfl rfl rfl (fun h hY => ?_)
  exact mx_J.ret (sn_33 40) (fun _ _ => rfl) ⟨rfl, _, hY, frY (l := [36]) hY (fr.up (fr.up (fr.up (fr.up (fr.up fr.rfl' rfl) rfl) rfl) rfl) rfl), rfl⟩
def KM (V : Nat → mx_C) : Prop := ∀ k, 56 ≤ k → k < 83 → V k = VB k
theorem KM.fr {l : List Nat} {V V2 : Nat → mx_C} (h : KM V) (hf : fr l V V2) (hl : (l.all fun a => Nat.blt a 56 || Nat.ble 83 a) = true) : KM V2 := by
  intro k h1 h2
  refine (hf k (List.all_eq_true.mpr fun a ha => ?_)).trans (h k h1 h2)
  have hb := List.all_eq_true.mp hl a ha
  rw [Bool.not_eq_true']
  cases hc : Nat.beq k a with
  | false => rfl
  | true =>
    have e : k = a := Nat.eq_of_beq_eq_true hc
    rw [← e] at hb
    rcases Bool.or_eq_true_iff.mp hb with hb | hb
    · have := mx_blt hb; omega
    · have := Nat.ble_eq.mp hb; omega
def IC (V : Nat → mx_C) (m : Nat) (x : Int32) : Prop := ∃ ne s mc TS, PC V ne ∧ 1 ≤ ne ∧ ne ≤ m ∧ V 38 = D38 s mc ∧ V 42 = ar 19 TS ∧ ai TS ∧ V 83 = .inl (1, [.int x]) ∧ V 36 = zc_36 ∧ V 40 = zc_40 ∧ V 41 = zc_41 ∧ KM V
theorem PC.fr {l : List Nat} {V V2 : Nat → mx_C} {ne : Nat} (h : PC V ne) (hf : fr l V V2) (hl : ([0, 1, 7, 8, 9, 10, 37, 12, 14, 16, 17, 19].all fun k => l.all fun a => !(Nat.beq k a)) = true) : PC V2 ne := by
  have hl := List.all_eq_true.mp hl
  obtain ⟨hB, h12, ⟨TB, h14, hTB⟩, ⟨TG, g, h16, hg, hq⟩, ⟨TK, k, h17, hk⟩, TT, h19, hT⟩ := h
  exact ⟨⟨(hf 0 (hl 0 (by decide))).trans (kb_0 hB), (hf 1 (hl 1 (by decide))).trans (kb_1 hB), (hf 7 (hl 7 (by decide))).trans (kb_7 hB), (hf 8 (hl 8 (by decide))).trans (kb_8 hB), (hf 9 (hl 9 (by decide))).trans (kb_9 hB), (hf 10 (hl 10 (by decide))).trans (kb_10 hB), (hf 37 (hl 37 (by decide))).trans (kb_37 hB)⟩, (hf 12 (hl 12 (by decide))).trans h12, ⟨TB, (hf 14 (hl 14 (by decide))).trans h14, hTB⟩, ⟨TG, g, (hf 16 (hl 16 (by decide))).trans h16, hg, hq⟩, ⟨TK, k, (hf 17 (hl 17 (by decide))).trans h17, hk⟩, TT, (hf 19 (hl 19 (by decide))).trans h19, hT⟩
theorem da_0 {m : Nat} {x : Int32} (hY : YH 84 62986 V h) (hI : IC V m x) (hm : m < 60) : ∃ h2 w, mx_Ca (tB l D b0 ad Hb tau) 29 139 [.ref 1, .ref 38, .long 0] h (some (.int w), h2) ∧ (w = 0 ↔ can 0 = true) ∧ ∃ V2, YH 84 62986 V2 h2 ∧ IC V2 (m + 1) x := by
  obtain ⟨ne, s, mc, TS, hP, n1, nm, h38, h42, hTS, h83, h36, h40, h41, hKM⟩ := hI
  obtain ⟨h2, hca, V2, ne2, mc2, hY2, hf, hP2, k38, m1, m2⟩ := dd_0 (l := l) (D := D) (b0 := b0) (ad := ad) (Hb := Hb) (tau := tau) hY hP h38 n1 (by omega)
  exact ⟨h2, 0, hca, by decide +kernel, V2, hY2, ne2, s, mc2, TS, hP2, by omega, by omega, k38, (hf 42 rfl).trans h42, hTS, (hf 83 rfl).trans h83, (hf 36 rfl).trans h36, (hf 40 rfl).trans h40, (hf 41 rfl).trans h41, hKM.fr hf rfl⟩
theorem da_1 {m : Nat} {x : Int32} (hY : YH 84 62986 V h) (hI : IC V m x) (hm : m < 60) : ∃ h2 w, mx_Ca (tB l D b0 ad Hb tau) 29 139 [.ref 1, .ref 38, .long 1] h (some (.int w), h2) ∧ (w = 0 ↔ can 1 = true) ∧ ∃ V2, YH 84 62986 V2 h2 ∧ IC V2 (m + 1) x := by
  obtain ⟨ne, s, mc, TS, hP, n1, nm, h38, h42, hTS, h83, h36, h40, h41, hKM⟩ := hI
  obtain ⟨h2, hca, V2, ne2, mc2, hY2, hf, hP2, k38, m1, m2⟩ := dd_1 (l := l) (D := D) (b0 := b0) (ad := ad) (Hb := Hb) (tau := tau) hY hP h38 n1 (by omega)
  exact ⟨h2, 0, hca, by decide +kernel, V2, hY2, ne2, s, mc2, TS, hP2, by omega, by omega, k38, (hf 42 rfl).trans h42, hTS, (hf 83 rfl).trans h83, (hf 36 rfl).trans h36, (hf 40 rfl).trans h40, (hf 41 rfl).trans h41, hKM.fr hf rfl⟩
theorem da_2 {m : Nat} {x : Int32} (hY : YH 84 62986 V h) (hI : IC V m x) (hm : m < 60) : ∃ h2 w, mx_Ca (tB l D b0 ad Hb tau) 29 139 [.ref 1, .ref 38, .long 2] h (some (.int w), h2) ∧ (w = 0 ↔ can 2 = true) ∧ ∃ V2, YH 84 62986 V2 h2 ∧ IC V2 (m + 1) x := by
  obtain ⟨ne, s, mc, TS, hP, n1, nm, h38, h42, hTS, h83, h36, h40, h41, hKM⟩ := hI
  obtain ⟨h2, hca, V2, ne2, mc2, hY2, hf, hP2, k38, m1, m2⟩ := dd_2 (l := l) (D := D) (b0 := b0) (ad := ad) (Hb := Hb) (tau := tau) hY hP h38 n1 (by omega)
  exact ⟨h2, 2, hca, by decide +kernel, V2, hY2, ne2, s, mc2, TS, hP2, by omega, by omega, k38, (hf 42 rfl).trans h42, hTS, (hf 83 rfl).trans h83, (hf 36 rfl).trans h36, (hf 40 rfl).trans h40, (hf 41 rfl).trans h41, hKM.fr hf rfl⟩
theorem da_3 {m : Nat} {x : Int32} (hY : YH 84 62986 V h) (hI : IC V m x) (hm : m < 60) : ∃ h2 w, mx_Ca (tB l D b0 ad Hb tau) 29 139 [.ref 1, .ref 38, .long 3] h (some (.int w), h2) ∧ (w = 0 ↔ can 3 = true) ∧ ∃ V2, YH 84 62986 V2 h2 ∧ IC V2 (m + 1) x := by
  obtain ⟨ne, s, mc, TS, hP, n1, nm, h38, h42, hTS, h83, h36, h40, h41, hKM⟩ := hI
  obtain ⟨h2, hca, V2, ne2, mc2, hY2, hf, hP2, k38, m1, m2⟩ := dd_3 (l := l) (D := D) (b0 := b0) (ad := ad) (Hb := Hb) (tau := tau) hY hP h38 n1 (by omega)
  exact ⟨h2, 2, hca, by decide +kernel, V2, hY2, ne2, s, mc2, TS, hP2, by omega, by omega, k38, (hf 42 rfl).trans h42, hTS, (hf 83 rfl).trans h83, (hf 36 rfl).trans h36, (hf 40 rfl).trans h40, (hf 41 rfl).trans h41, hKM.fr hf rfl⟩
theorem da_4 {m : Nat} {x : Int32} (hY : YH 84 62986 V h) (hI : IC V m x) (hm : m < 60) : ∃ h2 w, mx_Ca (tB l D b0 ad Hb tau) 29 139 [.ref 1, .ref 38, .long 4] h (some (.int w), h2) ∧ (w = 0 ↔ can 4 = true) ∧ ∃ V2, YH 84 62986 V2 h2 ∧ IC V2 (m + 1) x := by
  obtain ⟨ne, s, mc, TS, hP, n1, nm, h38, h42, hTS, h83, h36, h40, h41, hKM⟩ := hI
  obtain ⟨h2, hca, V2, ne2, mc2, hY2, hf, hP2, k38, m1, m2⟩ := dd_4 (l := l) (D := D) (b0 := b0) (ad := ad) (Hb := Hb) (tau := tau) hY hP h38 n1 (by omega)
  exact ⟨h2, 2, hca, by decide +kernel, V2, hY2, ne2, s, mc2, TS, hP2, by omega, by omega, k38, (hf 42 rfl).trans h42, hTS, (hf 83 rfl).trans h83, (hf 36 rfl).trans h36, (hf 40 rfl).trans h40, (hf 41 rfl).trans h41, hKM.fr hf rfl⟩
theorem da_5 {m : Nat} {x : Int32} (hY : YH 84 62986 V h) (hI : IC V m x) (hm : m < 60) : ∃ h2 w, mx_Ca (tB l D b0 ad Hb tau) 29 139 [.ref 1, .ref 38, .long 5] h (some (.int w), h2) ∧ (w = 0 ↔ can 5 = true) ∧ ∃ V2, YH 84 62986 V2 h2 ∧ IC V2 (m + 1) x := by
  obtain ⟨ne, s, mc, TS, hP, n1, nm, h38, h42, hTS, h83, h36, h40, h41, hKM⟩ := hI
  obtain ⟨h2, hca, V2, ne2, mc2, hY2, hf, hP2, k38, m1, m2⟩ := dd_5 (l := l) (D := D) (b0 := b0) (ad := ad) (Hb := Hb) (tau := tau) hY hP h38 n1 (by omega)
  exact ⟨h2, 2, hca, by decide +kernel, V2, hY2, ne2, s, mc2, TS, hP2, by omega, by omega, k38, (hf 42 rfl).trans h42, hTS, (hf 83 rfl).trans h83, (hf 36 rfl).trans h36, (hf 40 rfl).trans h40, (hf 41 rfl).trans h41, hKM.fr hf rfl⟩
theorem da_6 {m : Nat} {x : Int32} (hY : YH 84 62986 V h) (hI : IC V m x) (hm : m < 60) : ∃ h2 w, mx_Ca (tB l D b0 ad Hb tau) 29 139 [.ref 1, .ref 38, .long 6] h (some (.int w), h2) ∧ (w = 0 ↔ can 6 = true) ∧ ∃ V2, YH 84 62986 V2 h2 ∧ IC V2 (m + 1) x := by
  obtain ⟨ne, s, mc, TS, hP, n1, nm, h38, h42, hTS, h83, h36, h40, h41, hKM⟩ := hI
  obtain ⟨h2, hca, V2, ne2, mc2, hY2, hf, hP2, k38, m1, m2⟩ := dd_6 (l := l) (D := D) (b0 := b0) (ad := ad) (Hb := Hb) (tau := tau) hY hP h38 n1 (by omega)
  exact ⟨h2, 2, hca, by decide +kernel, V2, hY2, ne2, s, mc2, TS, hP2, by omega, by omega, k38, (hf 42 rfl).trans h42, hTS, (hf 83 rfl).trans h83, (hf 36 rfl).trans h36, (hf 40 rfl).trans h40, (hf 41 rfl).trans h41, hKM.fr hf rfl⟩
theorem da_7 {m : Nat} {x : Int32} (hY : YH 84 62986 V h) (hI : IC V m x) (hm : m < 60) : ∃ h2 w, mx_Ca (tB l D b0 ad Hb tau) 29 139 [.ref 1, .ref 38, .long 7] h (some (.int w), h2) ∧ (w = 0 ↔ can 7 = true) ∧ ∃ V2, YH 84 62986 V2 h2 ∧ IC V2 (m + 1) x := by
  obtain ⟨ne, s, mc, TS, hP, n1, nm, h38, h42, hTS, h83, h36, h40, h41, hKM⟩ := hI
  obtain ⟨h2, hca, V2, ne2, mc2, hY2, hf, hP2, k38, m1, m2⟩ := dd_7 (l := l) (D := D) (b0 := b0) (ad := ad) (Hb := Hb) (tau := tau) hY hP h38 n1 (by omega)
  exact ⟨h2, 2, hca, by decide +kernel, V2, hY2, ne2, s, mc2, TS, hP2, by omega, by omega, k38, (hf 42 rfl).trans h42, hTS, (hf 83 rfl).trans h83, (hf 36 rfl).trans h36, (hf 40 rfl).trans h40, (hf 41 rfl).trans h41, hKM.fr hf rfl⟩
theorem da_20 {m : Nat} {x : Int32} (hY : YH 84 62986 V h) (hI : IC V m x) (hm : m < 60) : ∃ h2 w, mx_Ca (tB l D b0 ad Hb tau) 29 139 [.ref 1, .ref 38, .long 20] h (some (.int w), h2) ∧ (w = 0 ↔ can 20 = true) ∧ ∃ V2, YH 84 62986 V2 h2 ∧ IC V2 (m + 1) x := by
  obtain ⟨ne, s, mc, TS, hP, n1, nm, h38, h42, hTS, h83, h36, h40, h41, hKM⟩ := hI
  obtain ⟨h2, hca, hY2⟩ := dd_20 (l := l) (D := D) (b0 := b0) (ad := ad) (Hb := Hb) (tau := tau) hY hP.1 h38
  have hf := frY (l := [38]) hY2 (fr.up fr.rfl' rfl)
  exact ⟨h2, 0, hca, by decide +kernel, _, hY2, ne, 0, mc, TS, hP.fr hf rfl, n1, by omega, rfl, h42, hTS, h83, h36, h40, h41, hKM.fr hf rfl⟩
theorem da_21 {m : Nat} {x : Int32} (hY : YH 84 62986 V h) (hI : IC V m x) (hm : m < 60) : ∃ h2 w, mx_Ca (tB l D b0 ad Hb tau) 29 139 [.ref 1, .ref 38, .long 21] h (some (.int w), h2) ∧ (w = 0 ↔ can 21 = true) ∧ ∃ V2, YH 84 62986 V2 h2 ∧ IC V2 (m + 1) x := by
  obtain ⟨ne, s, mc, TS, hP, n1, nm, h38, h42, hTS, h83, h36, h40, h41, hKM⟩ := hI
  obtain ⟨h2, hca, hY2⟩ := dd_21 (l := l) (D := D) (b0 := b0) (ad := ad) (Hb := Hb) (tau := tau) hY hP.1 h38
  have hf := frY (l := [38]) hY2 (fr.up fr.rfl' rfl)
  exact ⟨h2, 0, hca, by decide +kernel, _, hY2, ne, 1, mc, TS, hP.fr hf rfl, n1, by omega, rfl, h42, hTS, h83, h36, h40, h41, hKM.fr hf rfl⟩
theorem da_22 {m : Nat} {x : Int32} (hY : YH 84 62986 V h) (hI : IC V m x) (hm : m < 60) : ∃ h2 w, mx_Ca (tB l D b0 ad Hb tau) 29 139 [.ref 1, .ref 38, .long 22] h (some (.int w), h2) ∧ (w = 0 ↔ can 22 = true) ∧ ∃ V2, YH 84 62986 V2 h2 ∧ IC V2 (m + 1) x := by
  obtain ⟨ne, s, mc, TS, hP, n1, nm, h38, h42, hTS, h83, h36, h40, h41, hKM⟩ := hI
  obtain ⟨h2, hca, hY2⟩ := dd_22 (l := l) (D := D) (b0 := b0) (ad := ad) (Hb := Hb) (tau := tau) hY hP.1 h38
  have hf := frY (l := [38]) hY2 (fr.up fr.rfl' rfl)
  exact ⟨h2, 0, hca, by decide +kernel, _, hY2, ne, 2, mc, TS, hP.fr hf rfl, n1, by omega, rfl, h42, hTS, h83, h36, h40, h41, hKM.fr hf rfl⟩
theorem da_23 {m : Nat} {x : Int32} (hY : YH 84 62986 V h) (hI : IC V m x) (hm : m < 60) : ∃ h2 w, mx_Ca (tB l D b0 ad Hb tau) 29 139 [.ref 1, .ref 38, .long 23] h (some (.int w), h2) ∧ (w = 0 ↔ can 23 = true) ∧ ∃ V2, YH 84 62986 V2 h2 ∧ IC V2 (m + 1) x := by
  obtain ⟨ne, s, mc, TS, hP, n1, nm, h38, h42, hTS, h83, h36, h40, h41, hKM⟩ := hI
  obtain ⟨h2, hca, hY2⟩ := dd_23 (l := l) (D := D) (b0 := b0) (ad := ad) (Hb := Hb) (tau := tau) hY hP.1 h38
  have hf := frY (l := [38]) hY2 (fr.up fr.rfl' rfl)
  exact ⟨h2, 0, hca, by decide +kernel, _, hY2, ne, 3, mc, TS, hP.fr hf rfl, n1, by omega, rfl, h42, hTS, h83, h36, h40, h41, hKM.fr hf rfl⟩
theorem da_24 {m : Nat} {x : Int32} (hY : YH 84 62986 V h) (hI : IC V m x) (hm : m < 60) : ∃ h2 w, mx_Ca (tB l D b0 ad Hb tau) 29 139 [.ref 1, .ref 38, .long 24] h (some (.int w), h2) ∧ (w = 0 ↔ can 24 = true) ∧ ∃ V2, YH 84 62986 V2 h2 ∧ IC V2 (m + 1) x := by
  obtain ⟨ne, s, mc, TS, hP, n1, nm, h38, h42, hTS, h83, h36, h40, h41, hKM⟩ := hI
  obtain ⟨h2, hca, hY2⟩ := dd_24 (l := l) (D := D) (b0 := b0) (ad := ad) (Hb := Hb) (tau := tau) hY hP.1 h38
  have hf := frY (l := [38]) hY2 (fr.up fr.rfl' rfl)
  exact ⟨h2, 0, hca, by decide +kernel, _, hY2, ne, 4, mc, TS, hP.fr hf rfl, n1, by omega, rfl, h42, hTS, h83, h36, h40, h41, hKM.fr hf rfl⟩
theorem da_25 {m : Nat} {x : Int32} (hY : YH 84 62986 V h) (hI : IC V m x) (hm : m < 60) : ∃ h2 w, mx_Ca (tB l D b0 ad Hb tau) 29 139 [.ref 1, .ref 38, .long 25] h (some (.int w), h2) ∧ (w = 0 ↔ can 25 = true) ∧ ∃ V2, YH 84 62986 V2 h2 ∧ IC V2 (m + 1) x := by
  obtain ⟨ne, s, mc, TS, hP, n1, nm, h38, h42, hTS, h83, h36, h40, h41, hKM⟩ := hI
  obtain ⟨h2, hca, hY2⟩ := dd_25 (l := l) (D := D) (b0 := b0) (ad := ad) (Hb := Hb) (tau := tau) hY hP.1 h38
  have hf := frY (l := [38]) hY2 (fr.up fr.rfl' rfl)
  exact ⟨h2, 0, hca, by decide +kernel, _, hY2, ne, 5, mc, TS, hP.fr hf rfl, n1, by omega, rfl, h42, hTS, h83, h36, h40, h41, hKM.fr hf rfl⟩
theorem da_26 {m : Nat} {x : Int32} (hY : YH 84 62986 V h) (hI : IC V m x) (hm : m < 60) : ∃ h2 w, mx_Ca (tB l D b0 ad Hb tau) 29 139 [.ref 1, .ref 38, .long 26] h (some (.int w), h2) ∧ (w = 0 ↔ can 26 = true) ∧ ∃ V2, YH 84 62986 V2 h2 ∧ IC V2 (m + 1) x := by
  obtain ⟨ne, s, mc, TS, hP, n1, nm, h38, h42, hTS, h83, h36, h40, h41, hKM⟩ := hI
  obtain ⟨h2, hca, hY2⟩ := dd_26 (l := l) (D := D) (b0 := b0) (ad := ad) (Hb := Hb) (tau := tau) hY hP.1 h38
  have hf := frY (l := [38]) hY2 (fr.up fr.rfl' rfl)
  exact ⟨h2, 0, hca, by decide +kernel, _, hY2, ne, 6, mc, TS, hP.fr hf rfl, n1, by omega, rfl, h42, hTS, h83, h36, h40, h41, hKM.fr hf rfl⟩
theorem da_27 {m : Nat} {x : Int32} (hY : YH 84 62986 V h) (hI : IC V m x) (hm : m < 60) : ∃ h2 w, mx_Ca (tB l D b0 ad Hb tau) 29 139 [.ref 1, .ref 38, .long 27] h (some (.int w), h2) ∧ (w = 0 ↔ can 27 = true) ∧ ∃ V2, YH 84 62986 V2 h2 ∧ IC V2 (m + 1) x := by
  obtain ⟨ne, s, mc, TS, hP, n1, nm, h38, h42, hTS, h83, h36, h40, h41, hKM⟩ := hI
  obtain ⟨h2, hca, hY2⟩ := dd_27 (l := l) (D := D) (b0 := b0) (ad := ad) (Hb := Hb) (tau := tau) hY hP.1 h38
  have hf := frY (l := [38]) hY2 (fr.up fr.rfl' rfl)
  exact ⟨h2, 0, hca, by decide +kernel, _, hY2, ne, 7, mc, TS, hP.fr hf rfl, n1, by omega, rfl, h42, hTS, h83, h36, h40, h41, hKM.fr hf rfl⟩
theorem da_28 {m : Nat} {x : Int32} (hY : YH 84 62986 V h) (hI : IC V m x) (hm : m < 60) : ∃ h2 w, mx_Ca (tB l D b0 ad Hb tau) 29 139 [.ref 1, .ref 38, .long 28] h (some (.int w), h2) ∧ (w = 0 ↔ can 28 = true) ∧ ∃ V2, YH 84 62986 V2 h2 ∧ IC V2 (m + 1) x := by
  obtain ⟨ne, s, mc, TS, hP, n1, nm, h38, h42, hTS, h83, h36, h40, h41, hKM⟩ := hI
  obtain ⟨h2, hca, hY2⟩ := dd_28 (l := l) (D := D) (b0 := b0) (ad := ad) (Hb := Hb) (tau := tau) hY hP.1 h38
  have hf := frY (l := [38]) hY2 (fr.up fr.rfl' rfl)
  exact ⟨h2, 0, hca, by decide +kernel, _, hY2, ne, 8, mc, TS, hP.fr hf rfl, n1, by omega, rfl, h42, hTS, h83, h36, h40, h41, hKM.fr hf rfl⟩
theorem da_29 {m : Nat} {x : Int32} (hY : YH 84 62986 V h) (hI : IC V m x) (hm : m < 60) : ∃ h2 w, mx_Ca (tB l D b0 ad Hb tau) 29 139 [.ref 1, .ref 38, .long 29] h (some (.int w), h2) ∧ (w = 0 ↔ can 29 = true) ∧ ∃ V2, YH 84 62986 V2 h2 ∧ IC V2 (m + 1) x := by
  obtain ⟨ne, s, mc, TS, hP, n1, nm, h38, h42, hTS, h83, h36, h40, h41, hKM⟩ := hI
  obtain ⟨h2, hca, hY2⟩ := dd_29 (l := l) (D := D) (b0 := b0) (ad := ad) (Hb := Hb) (tau := tau) hY hP.1 h38
  have hf := frY (l := [38]) hY2 (fr.up fr.rfl' rfl)
  exact ⟨h2, 0, hca, by decide +kernel, _, hY2, ne, 9, mc, TS, hP.fr hf rfl, n1, by omega, rfl, h42, hTS, h83, h36, h40, h41, hKM.fr hf rfl⟩
theorem da_3000 {m : Nat} {x : Int32} (hY : YH 84 62986 V h) (hI : IC V m x) (hm : m < 60) : ∃ h2 w, mx_Ca (tB l D b0 ad Hb tau) 29 139 [.ref 1, .ref 38, .long 3000] h (some (.int w), h2) ∧ (w = 0 ↔ can 3000 = true) ∧ ∃ V2, YH 84 62986 V2 h2 ∧ IC V2 (m + 1) x := by
  obtain ⟨ne, s, mc, TS, hP, n1, nm, h38, h42, hTS, h83, h36, h40, h41, hKM⟩ := hI
  obtain ⟨h2, hca, T2, hY2, hT2⟩ := dd_3000 (l := l) (D := D) (b0 := b0) (ad := ad) (Hb := Hb) (tau := tau) hY hP.1 h38 h42 hTS
  have hf := frY (l := [42]) hY2 (fr.up fr.rfl' rfl)
  exact ⟨h2, 1, hca, by decide +kernel, _, hY2, ne, s, mc, T2, hP.fr hf rfl, n1, by omega, h38, rfl, hT2, h83, h36, h40, h41, hKM.fr hf rfl⟩
theorem da_3001 {m : Nat} {x : Int32} (hY : YH 84 62986 V h) (hI : IC V m x) (hm : m < 60) : ∃ h2 w, mx_Ca (tB l D b0 ad Hb tau) 29 139 [.ref 1, .ref 38, .long 3001] h (some (.int w), h2) ∧ (w = 0 ↔ can 3001 = true) ∧ ∃ V2, YH 84 62986 V2 h2 ∧ IC V2 (m + 1) x := by
  obtain ⟨ne, s, mc, TS, hP, n1, nm, h38, h42, hTS, h83, h36, h40, h41, hKM⟩ := hI
  obtain ⟨h2, hca, T2, hY2, hT2⟩ := dd_3001 (l := l) (D := D) (b0 := b0) (ad := ad) (Hb := Hb) (tau := tau) hY hP.1 h38 h42 hTS
  have hf := frY (l := [42]) hY2 (fr.up fr.rfl' rfl)
  exact ⟨h2, 1, hca, by decide +kernel, _, hY2, ne, s, mc, T2, hP.fr hf rfl, n1, by omega, h38, rfl, hT2, h83, h36, h40, h41, hKM.fr hf rfl⟩
theorem da_3002 {m : Nat} {x : Int32} (hY : YH 84 62986 V h) (hI : IC V m x) (hm : m < 60) : ∃ h2 w, mx_Ca (tB l D b0 ad Hb tau) 29 139 [.ref 1, .ref 38, .long 3002] h (some (.int w), h2) ∧ (w = 0 ↔ can 3002 = true) ∧ ∃ V2, YH 84 62986 V2 h2 ∧ IC V2 (m + 1) x := by
  obtain ⟨ne, s, mc, TS, hP, n1, nm, h38, h42, hTS, h83, h36, h40, h41, hKM⟩ := hI
  obtain ⟨h2, hca, T2, hY2, hT2⟩ := dd_3002 (l := l) (D := D) (b0 := b0) (ad := ad) (Hb := Hb) (tau := tau) hY hP.1 h38 h42 hTS
  have hf := frY (l := [42]) hY2 (fr.up fr.rfl' rfl)
  exact ⟨h2, 1, hca, by decide +kernel, _, hY2, ne, s, mc, T2, hP.fr hf rfl, n1, by omega, h38, rfl, hT2, h83, h36, h40, h41, hKM.fr hf rfl⟩
theorem da_3003 {m : Nat} {x : Int32} (hY : YH 84 62986 V h) (hI : IC V m x) (hm : m < 60) : ∃ h2 w, mx_Ca (tB l D b0 ad Hb tau) 29 139 [.ref 1, .ref 38, .long 3003] h (some (.int w), h2) ∧ (w = 0 ↔ can 3003 = true) ∧ ∃ V2, YH 84 62986 V2 h2 ∧ IC V2 (m + 1) x := by
  obtain ⟨ne, s, mc, TS, hP, n1, nm, h38, h42, hTS, h83, h36, h40, h41, hKM⟩ := hI
  obtain ⟨h2, hca, T2, hY2, hT2⟩ := dd_3003 (l := l) (D := D) (b0 := b0) (ad := ad) (Hb := Hb) (tau := tau) hY hP.1 h38 h42 hTS
  have hf := frY (l := [42]) hY2 (fr.up fr.rfl' rfl)
  exact ⟨h2, 1, hca, by decide +kernel, _, hY2, ne, s, mc, T2, hP.fr hf rfl, n1, by omega, h38, rfl, hT2, h83, h36, h40, h41, hKM.fr hf rfl⟩
theorem da_3004 {m : Nat} {x : Int32} (hY : YH 84 62986 V h) (hI : IC V m x) (hm : m < 60) : ∃ h2 w, mx_Ca (tB l D b0 ad Hb tau) 29 139 [.ref 1, .ref 38, .long 3004] h (some (.int w), h2) ∧ (w = 0 ↔ can 3004 = true) ∧ ∃ V2, YH 84 62986 V2 h2 ∧ IC V2 (m + 1) x := by
  obtain ⟨ne, s, mc, TS, hP, n1, nm, h38, h42, hTS, h83, h36, h40, h41, hKM⟩ := hI
  obtain ⟨h2, hca, T2, hY2, hT2⟩ := dd_3004 (l := l) (D := D) (b0 := b0) (ad := ad) (Hb := Hb) (tau := tau) hY hP.1 h38 h42 hTS
  have hf := frY (l := [42]) hY2 (fr.up fr.rfl' rfl)
  exact ⟨h2, 1, hca, by decide +kernel, _, hY2, ne, s, mc, T2, hP.fr hf rfl, n1, by omega, h38, rfl, hT2, h83, h36, h40, h41, hKM.fr hf rfl⟩
theorem da_3005 {m : Nat} {x : Int32} (hY : YH 84 62986 V h) (hI : IC V m x) (hm : m < 60) : ∃ h2 w, mx_Ca (tB l D b0 ad Hb tau) 29 139 [.ref 1, .ref 38, .long 3005] h (some (.int w), h2) ∧ (w = 0 ↔ can 3005 = true) ∧ ∃ V2, YH 84 62986 V2 h2 ∧ IC V2 (m + 1) x := by
  obtain ⟨ne, s, mc, TS, hP, n1, nm, h38, h42, hTS, h83, h36, h40, h41, hKM⟩ := hI
  obtain ⟨h2, hca, T2, hY2, hT2⟩ := dd_3005 (l := l) (D := D) (b0 := b0) (ad := ad) (Hb := Hb) (tau := tau) hY hP.1 h38 h42 hTS
  have hf := frY (l := [42]) hY2 (fr.up fr.rfl' rfl)
  exact ⟨h2, 1, hca, by decide +kernel, _, hY2, ne, s, mc, T2, hP.fr hf rfl, n1, by omega, h38, rfl, hT2, h83, h36, h40, h41, hKM.fr hf rfl⟩
theorem da_3100 {m : Nat} {x : Int32} (hY : YH 84 62986 V h) (hI : IC V m x) (hm : m < 60) : ∃ h2 w, mx_Ca (tB l D b0 ad Hb tau) 29 139 [.ref 1, .ref 38, .long 3100] h (some (.int w), h2) ∧ (w = 0 ↔ can 3100 = true) ∧ ∃ V2, YH 84 62986 V2 h2 ∧ IC V2 (m + 1) x := by
  obtain ⟨ne, s, mc, TS, hP, n1, nm, h38, h42, hTS, h83, h36, h40, h41, hKM⟩ := hI
  obtain ⟨h2, hca, T2, hY2, hT2⟩ := dd_3100 (l := l) (D := D) (b0 := b0) (ad := ad) (Hb := Hb) (tau := tau) hY hP.1 h38 h42 hTS
  have hf := frY (l := [42]) hY2 (fr.up fr.rfl' rfl)
  exact ⟨h2, 1, hca, by decide +kernel, _, hY2, ne, s, mc, T2, hP.fr hf rfl, n1, by omega, h38, rfl, hT2, h83, h36, h40, h41, hKM.fr hf rfl⟩
theorem da_3101 {m : Nat} {x : Int32} (hY : YH 84 62986 V h) (hI : IC V m x) (hm : m < 60) : ∃ h2 w, mx_Ca (tB l D b0 ad Hb tau) 29 139 [.ref 1, .ref 38, .long 3101] h (some (.int w), h2) ∧ (w = 0 ↔ can 3101 = true) ∧ ∃ V2, YH 84 62986 V2 h2 ∧ IC V2 (m + 1) x := by
  obtain ⟨ne, s, mc, TS, hP, n1, nm, h38, h42, hTS, h83, h36, h40, h41, hKM⟩ := hI
  obtain ⟨h2, hca, T2, hY2, hT2⟩ := dd_3101 (l := l) (D := D) (b0 := b0) (ad := ad) (Hb := Hb) (tau := tau) hY hP.1 h38 h42 hTS
  have hf := frY (l := [42]) hY2 (fr.up fr.rfl' rfl)
  exact ⟨h2, 2, hca, by decide +kernel, _, hY2, ne, s, mc, T2, hP.fr hf rfl, n1, by omega, h38, rfl, hT2, h83, h36, h40, h41, hKM.fr hf rfl⟩
theorem da_3102 {m : Nat} {x : Int32} (hY : YH 84 62986 V h) (hI : IC V m x) (hm : m < 60) : ∃ h2 w, mx_Ca (tB l D b0 ad Hb tau) 29 139 [.ref 1, .ref 38, .long 3102] h (some (.int w), h2) ∧ (w = 0 ↔ can 3102 = true) ∧ ∃ V2, YH 84 62986 V2 h2 ∧ IC V2 (m + 1) x := by
  obtain ⟨ne, s, mc, TS, hP, n1, nm, h38, h42, hTS, h83, h36, h40, h41, hKM⟩ := hI
  obtain ⟨h2, hca, T2, hY2, hT2⟩ := dd_3102 (l := l) (D := D) (b0 := b0) (ad := ad) (Hb := Hb) (tau := tau) hY hP.1 h38 h42 hTS
  have hf := frY (l := [42]) hY2 (fr.up fr.rfl' rfl)
  exact ⟨h2, 2, hca, by decide +kernel, _, hY2, ne, s, mc, T2, hP.fr hf rfl, n1, by omega, h38, rfl, hT2, h83, h36, h40, h41, hKM.fr hf rfl⟩
theorem da_3103 {m : Nat} {x : Int32} (hY : YH 84 62986 V h) (hI : IC V m x) (hm : m < 60) : ∃ h2 w, mx_Ca (tB l D b0 ad Hb tau) 29 139 [.ref 1, .ref 38, .long 3103] h (some (.int w), h2) ∧ (w = 0 ↔ can 3103 = true) ∧ ∃ V2, YH 84 62986 V2 h2 ∧ IC V2 (m + 1) x := by
  obtain ⟨ne, s, mc, TS, hP, n1, nm, h38, h42, hTS, h83, h36, h40, h41, hKM⟩ := hI
  obtain ⟨h2, hca, T2, hY2, hT2⟩ := dd_3103 (l := l) (D := D) (b0 := b0) (ad := ad) (Hb := Hb) (tau := tau) hY hP.1 h38 h42 hTS
  have hf := frY (l := [42]) hY2 (fr.up fr.rfl' rfl)
  exact ⟨h2, 2, hca, by decide +kernel, _, hY2, ne, s, mc, T2, hP.fr hf rfl, n1, by omega, h38, rfl, hT2, h83, h36, h40, h41, hKM.fr hf rfl⟩
theorem da_3104 {m : Nat} {x : Int32} (hY : YH 84 62986 V h) (hI : IC V m x) (hm : m < 60) : ∃ h2 w, mx_Ca (tB l D b0 ad Hb tau) 29 139 [.ref 1, .ref 38, .long 3104] h (some (.int w), h2) ∧ (w = 0 ↔ can 3104 = true) ∧ ∃ V2, YH 84 62986 V2 h2 ∧ IC V2 (m + 1) x := by
  obtain ⟨ne, s, mc, TS, hP, n1, nm, h38, h42, hTS, h83, h36, h40, h41, hKM⟩ := hI
  obtain ⟨h2, hca, T2, hY2, hT2⟩ := dd_3104 (l := l) (D := D) (b0 := b0) (ad := ad) (Hb := Hb) (tau := tau) hY hP.1 h38 h42 hTS
  have hf := frY (l := [42]) hY2 (fr.up fr.rfl' rfl)
  exact ⟨h2, 2, hca, by decide +kernel, _, hY2, ne, s, mc, T2, hP.fr hf rfl, n1, by omega, h38, rfl, hT2, h83, h36, h40, h41, hKM.fr hf rfl⟩
theorem da_3105 {m : Nat} {x : Int32} (hY : YH 84 62986 V h) (hI : IC V m x) (hm : m < 60) : ∃ h2 w, mx_Ca (tB l D b0 ad Hb tau) 29 139 [.ref 1, .ref 38, .long 3105] h (some (.int w), h2) ∧ (w = 0 ↔ can 3105 = true) ∧ ∃ V2, YH 84 62986 V2 h2 ∧ IC V2 (m + 1) x := by
  obtain ⟨ne, s, mc, TS, hP, n1, nm, h38, h42, hTS, h83, h36, h40, h41, hKM⟩ := hI
  obtain ⟨h2, hca, T2, hY2, hT2⟩ := dd_3105 (l := l) (D := D) (b0 := b0) (ad := ad) (Hb := Hb) (tau := tau) hY hP.1 h38 h42 hTS
  have hf := frY (l := [42]) hY2 (fr.up fr.rfl' rfl)
  exact ⟨h2, 2, hca, by decide +kernel, _, hY2, ne, s, mc, T2, hP.fr hf rfl, n1, by omega, h38, rfl, hT2, h83, h36, h40, h41, hKM.fr hf rfl⟩
theorem da_3200 {m : Nat} {x : Int32} (hY : YH 84 62986 V h) (hI : IC V m x) (hm : m < 60) : ∃ h2 w, mx_Ca (tB l D b0 ad Hb tau) 29 139 [.ref 1, .ref 38, .long 3200] h (some (.int w), h2) ∧ (w = 0 ↔ can 3200 = true) ∧ ∃ V2, YH 84 62986 V2 h2 ∧ IC V2 (m + 1) x := by
  obtain ⟨ne, s, mc, TS, hP, n1, nm, h38, h42, hTS, h83, h36, h40, h41, hKM⟩ := hI
  obtain ⟨h2, hca, T2, hY2, hT2⟩ := dd_3200 (l := l) (D := D) (b0 := b0) (ad := ad) (Hb := Hb) (tau := tau) hY hP.1 h38 h42 hTS
  have hf := frY (l := [42]) hY2 (fr.up fr.rfl' rfl)
  exact ⟨h2, 1, hca, by decide +kernel, _, hY2, ne, s, mc, T2, hP.fr hf rfl, n1, by omega, h38, rfl, hT2, h83, h36, h40, h41, hKM.fr hf rfl⟩
theorem da_3201 {m : Nat} {x : Int32} (hY : YH 84 62986 V h) (hI : IC V m x) (hm : m < 60) : ∃ h2 w, mx_Ca (tB l D b0 ad Hb tau) 29 139 [.ref 1, .ref 38, .long 3201] h (some (.int w), h2) ∧ (w = 0 ↔ can 3201 = true) ∧ ∃ V2, YH 84 62986 V2 h2 ∧ IC V2 (m + 1) x := by
  obtain ⟨ne, s, mc, TS, hP, n1, nm, h38, h42, hTS, h83, h36, h40, h41, hKM⟩ := hI
  obtain ⟨h2, hca, T2, hY2, hT2⟩ := dd_3201 (l := l) (D := D) (b0 := b0) (ad := ad) (Hb := Hb) (tau := tau) hY hP.1 h38 h42 hTS
  have hf := frY (l := [42]) hY2 (fr.up fr.rfl' rfl)
  exact ⟨h2, 2, hca, by decide +kernel, _, hY2, ne, s, mc, T2, hP.fr hf rfl, n1, by omega, h38, rfl, hT2, h83, h36, h40, h41, hKM.fr hf rfl⟩
theorem da_3202 {m : Nat} {x : Int32} (hY : YH 84 62986 V h) (hI : IC V m x) (hm : m < 60) : ∃ h2 w, mx_Ca (tB l D b0 ad Hb tau) 29 139 [.ref 1, .ref 38, .long 3202] h (some (.int w), h2) ∧ (w = 0 ↔ can 3202 = true) ∧ ∃ V2, YH 84 62986 V2 h2 ∧ IC V2 (m + 1) x := by
  obtain ⟨ne, s, mc, TS, hP, n1, nm, h38, h42, hTS, h83, h36, h40, h41, hKM⟩ := hI
  obtain ⟨h2, hca, T2, hY2, hT2⟩ := dd_3202 (l := l) (D := D) (b0 := b0) (ad := ad) (Hb := Hb) (tau := tau) hY hP.1 h38 h42 hTS
  have hf := frY (l := [42]) hY2 (fr.up fr.rfl' rfl)
  exact ⟨h2, 2, hca, by decide +kernel, _, hY2, ne, s, mc, T2, hP.fr hf rfl, n1, by omega, h38, rfl, hT2, h83, h36, h40, h41, hKM.fr hf rfl⟩
theorem da_3203 {m : Nat} {x : Int32} (hY : YH 84 62986 V h) (hI : IC V m x) (hm : m < 60) : ∃ h2 w, mx_Ca (tB l D b0 ad Hb tau) 29 139 [.ref 1, .ref 38, .long 3203] h (some (.int w), h2) ∧ (w = 0 ↔ can 3203 = true) ∧ ∃ V2, YH 84 62986 V2 h2 ∧ IC V2 (m + 1) x := by
  obtain ⟨ne, s, mc, TS, hP, n1, nm, h38, h42, hTS, h83, h36, h40, h41, hKM⟩ := hI
  obtain ⟨h2, hca, T2, hY2, hT2⟩ := dd_3203 (l := l) (D := D) (b0 := b0) (ad := ad) (Hb := Hb) (tau := tau) hY hP.1 h38 h42 hTS
  have hf := frY (l := [42]) hY2 (fr.up fr.rfl' rfl)
  exact ⟨h2, 2, hca, by decide +kernel, _, hY2, ne, s, mc, T2, hP.fr hf rfl, n1, by omega, h38, rfl, hT2, h83, h36, h40, h41, hKM.fr hf rfl⟩
theorem da_3204 {m : Nat} {x : Int32} (hY : YH 84 62986 V h) (hI : IC V m x) (hm : m < 60) : ∃ h2 w, mx_Ca (tB l D b0 ad Hb tau) 29 139 [.ref 1, .ref 38, .long 3204] h (some (.int w), h2) ∧ (w = 0 ↔ can 3204 = true) ∧ ∃ V2, YH 84 62986 V2 h2 ∧ IC V2 (m + 1) x := by
  obtain ⟨ne, s, mc, TS, hP, n1, nm, h38, h42, hTS, h83, h36, h40, h41, hKM⟩ := hI
  obtain ⟨h2, hca, T2, hY2, hT2⟩ := dd_3204 (l := l) (D := D) (b0 := b0) (ad := ad) (Hb := Hb) (tau := tau) hY hP.1 h38 h42 hTS
  have hf := frY (l := [42]) hY2 (fr.up fr.rfl' rfl)
  exact ⟨h2, 2, hca, by decide +kernel, _, hY2, ne, s, mc, T2, hP.fr hf rfl, n1, by omega, h38, rfl, hT2, h83, h36, h40, h41, hKM.fr hf rfl⟩
theorem da_3205 {m : Nat} {x : Int32} (hY : YH 84 62986 V h) (hI : IC V m x) (hm : m < 60) : ∃ h2 w, mx_Ca (tB l D b0 ad Hb tau) 29 139 [.ref 1, .ref 38, .long 3205] h (some (.int w), h2) ∧ (w = 0 ↔ can 3205 = true) ∧ ∃ V2, YH 84 62986 V2 h2 ∧ IC V2 (m + 1) x := by
  obtain ⟨ne, s, mc, TS, hP, n1, nm, h38, h42, hTS, h83, h36, h40, h41, hKM⟩ := hI
  obtain ⟨h2, hca, T2, hY2, hT2⟩ := dd_3205 (l := l) (D := D) (b0 := b0) (ad := ad) (Hb := Hb) (tau := tau) hY hP.1 h38 h42 hTS
  have hf := frY (l := [42]) hY2 (fr.up fr.rfl' rfl)
  exact ⟨h2, 2, hca, by decide +kernel, _, hY2, ne, s, mc, T2, hP.fr hf rfl, n1, by omega, h38, rfl, hT2, h83, h36, h40, h41, hKM.fr hf rfl⟩
theorem da_3300 {m : Nat} {x : Int32} (hY : YH 84 62986 V h) (hI : IC V m x) (hm : m < 60) : ∃ h2 w, mx_Ca (tB l D b0 ad Hb tau) 29 139 [.ref 1, .ref 38, .long 3300] h (some (.int w), h2) ∧ (w = 0 ↔ can 3300 = true) ∧ ∃ V2, YH 84 62986 V2 h2 ∧ IC V2 (m + 1) x := by
  obtain ⟨ne, s, mc, TS, hP, n1, nm, h38, h42, hTS, h83, h36, h40, h41, hKM⟩ := hI
  obtain ⟨h2, hca, T2, hY2, hT2⟩ := dd_3300 (l := l) (D := D) (b0 := b0) (ad := ad) (Hb := Hb) (tau := tau) hY hP.1 h38 h42 hTS
  have hf := frY (l := [42]) hY2 (fr.up fr.rfl' rfl)
  exact ⟨h2, 1, hca, by decide +kernel, _, hY2, ne, s, mc, T2, hP.fr hf rfl, n1, by omega, h38, rfl, hT2, h83, h36, h40, h41, hKM.fr hf rfl⟩
theorem da_3301 {m : Nat} {x : Int32} (hY : YH 84 62986 V h) (hI : IC V m x) (hm : m < 60) : ∃ h2 w, mx_Ca (tB l D b0 ad Hb tau) 29 139 [.ref 1, .ref 38, .long 3301] h (some (.int w), h2) ∧ (w = 0 ↔ can 3301 = true) ∧ ∃ V2, YH 84 62986 V2 h2 ∧ IC V2 (m + 1) x := by
  obtain ⟨ne, s, mc, TS, hP, n1, nm, h38, h42, hTS, h83, h36, h40, h41, hKM⟩ := hI
  obtain ⟨h2, hca, T2, hY2, hT2⟩ := dd_3301 (l := l) (D := D) (b0 := b0) (ad := ad) (Hb := Hb) (tau := tau) hY hP.1 h38 h42 hTS
  have hf := frY (l := [42]) hY2 (fr.up fr.rfl' rfl)
  exact ⟨h2, 2, hca, by decide +kernel, _, hY2, ne, s, mc, T2, hP.fr hf rfl, n1, by omega, h38, rfl, hT2, h83, h36, h40, h41, hKM.fr hf rfl⟩
theorem da_3302 {m : Nat} {x : Int32} (hY : YH 84 62986 V h) (hI : IC V m x) (hm : m < 60) : ∃ h2 w, mx_Ca (tB l D b0 ad Hb tau) 29 139 [.ref 1, .ref 38, .long 3302] h (some (.int w), h2) ∧ (w = 0 ↔ can 3302 = true) ∧ ∃ V2, YH 84 62986 V2 h2 ∧ IC V2 (m + 1) x := by
  obtain ⟨ne, s, mc, TS, hP, n1, nm, h38, h42, hTS, h83, h36, h40, h41, hKM⟩ := hI
  obtain ⟨h2, hca, T2, hY2, hT2⟩ := dd_3302 (l := l) (D := D) (b0 := b0) (ad := ad) (Hb := Hb) (tau := tau) hY hP.1 h38 h42 hTS
  have hf := frY (l := [42]) hY2 (fr.up fr.rfl' rfl)
  exact ⟨h2, 2, hca, by decide +kernel, _, hY2, ne, s, mc, T2, hP.fr hf rfl, n1, by omega, h38, rfl, hT2, h83, h36, h40, h41, hKM.fr hf rfl⟩
theorem da_3303 {m : Nat} {x : Int32} (hY : YH 84 62986 V h) (hI : IC V m x) (hm : m < 60) : ∃ h2 w, mx_Ca (tB l D b0 ad Hb tau) 29 139 [.ref 1, .ref 38, .long 3303] h (some (.int w), h2) ∧ (w = 0 ↔ can 3303 = true) ∧ ∃ V2, YH 84 62986 V2 h2 ∧ IC V2 (m + 1) x := by
  obtain ⟨ne, s, mc, TS, hP, n1, nm, h38, h42, hTS, h83, h36, h40, h41, hKM⟩ := hI
  obtain ⟨h2, hca, T2, hY2, hT2⟩ := dd_3303 (l := l) (D := D) (b0 := b0) (ad := ad) (Hb := Hb) (tau := tau) hY hP.1 h38 h42 hTS
  have hf := frY (l := [42]) hY2 (fr.up fr.rfl' rfl)
  exact ⟨h2, 2, hca, by decide +kernel, _, hY2, ne, s, mc, T2, hP.fr hf rfl, n1, by omega, h38, rfl, hT2, h83, h36, h40, h41, hKM.fr hf rfl⟩
theorem da_3304 {m : Nat} {x : Int32} (hY : YH 84 62986 V h) (hI : IC V m x) (hm : m < 60) : ∃ h2 w, mx_Ca (tB l D b0 ad Hb tau) 29 139 [.ref 1, .ref 38, .long 3304] h (some (.int w), h2) ∧ (w = 0 ↔ can 3304 = true) ∧ ∃ V2, YH 84 62986 V2 h2 ∧ IC V2 (m + 1) x := by
  obtain ⟨ne, s, mc, TS, hP, n1, nm, h38, h42, hTS, h83, h36, h40, h41, hKM⟩ := hI
  obtain ⟨h2, hca, T2, hY2, hT2⟩ := dd_3304 (l := l) (D := D) (b0 := b0) (ad := ad) (Hb := Hb) (tau := tau) hY hP.1 h38 h42 hTS
  have hf := frY (l := [42]) hY2 (fr.up fr.rfl' rfl)
  exact ⟨h2, 2, hca, by decide +kernel, _, hY2, ne, s, mc, T2, hP.fr hf rfl, n1, by omega, h38, rfl, hT2, h83, h36, h40, h41, hKM.fr hf rfl⟩
theorem da_3305 {m : Nat} {x : Int32} (hY : YH 84 62986 V h) (hI : IC V m x) (hm : m < 60) : ∃ h2 w, mx_Ca (tB l D b0 ad Hb tau) 29 139 [.ref 1, .ref 38, .long 3305] h (some (.int w), h2) ∧ (w = 0 ↔ can 3305 = true) ∧ ∃ V2, YH 84 62986 V2 h2 ∧ IC V2 (m + 1) x := by
  obtain ⟨ne, s, mc, TS, hP, n1, nm, h38, h42, hTS, h83, h36, h40, h41, hKM⟩ := hI
  obtain ⟨h2, hca, T2, hY2, hT2⟩ := dd_3305 (l := l) (D := D) (b0 := b0) (ad := ad) (Hb := Hb) (tau := tau) hY hP.1 h38 h42 hTS
  have hf := frY (l := [42]) hY2 (fr.up fr.rfl' rfl)
  exact ⟨h2, 2, hca, by decide +kernel, _, hY2, ne, s, mc, T2, hP.fr hf rfl, n1, by omega, h38, rfl, hT2, h83, h36, h40, h41, hKM.fr hf rfl⟩
theorem da_3400 {m : Nat} {x : Int32} (hY : YH 84 62986 V h) (hI : IC V m x) (hm : m < 60) : ∃ h2 w, mx_Ca (tB l D b0 ad Hb tau) 29 139 [.ref 1, .ref 38, .long 3400] h (some (.int w), h2) ∧ (w = 0 ↔ can 3400 = true) ∧ ∃ V2, YH 84 62986 V2 h2 ∧ IC V2 (m + 1) x := by
  obtain ⟨ne, s, mc, TS, hP, n1, nm, h38, h42, hTS, h83, h36, h40, h41, hKM⟩ := hI
  obtain ⟨h2, hca, T2, hY2, hT2⟩ := dd_3400 (l := l) (D := D) (b0 := b0) (ad := ad) (Hb := Hb) (tau := tau) hY hP.1 h38 h42 hTS
  have hf := frY (l := [42]) hY2 (fr.up fr.rfl' rfl)
  exact ⟨h2, 1, hca, by decide +kernel, _, hY2, ne, s, mc, T2, hP.fr hf rfl, n1, by omega, h38, rfl, hT2, h83, h36, h40, h41, hKM.fr hf rfl⟩
theorem da_3401 {m : Nat} {x : Int32} (hY : YH 84 62986 V h) (hI : IC V m x) (hm : m < 60) : ∃ h2 w, mx_Ca (tB l D b0 ad Hb tau) 29 139 [.ref 1, .ref 38, .long 3401] h (some (.int w), h2) ∧ (w = 0 ↔ can 3401 = true) ∧ ∃ V2, YH 84 62986 V2 h2 ∧ IC V2 (m + 1) x := by
  obtain ⟨ne, s, mc, TS, hP, n1, nm, h38, h42, hTS, h83, h36, h40, h41, hKM⟩ := hI
  obtain ⟨h2, hca, T2, hY2, hT2⟩ := dd_3401 (l := l) (D := D) (b0 := b0) (ad := ad) (Hb := Hb) (tau := tau) hY hP.1 h38 h42 hTS
  have hf := frY (l := [42]) hY2 (fr.up fr.rfl' rfl)
  exact ⟨h2, 2, hca, by decide +kernel, _, hY2, ne, s, mc, T2, hP.fr hf rfl, n1, by omega, h38, rfl, hT2, h83, h36, h40, h41, hKM.fr hf rfl⟩
theorem da_3402 {m : Nat} {x : Int32} (hY : YH 84 62986 V h) (hI : IC V m x) (hm : m < 60) : ∃ h2 w, mx_Ca (tB l D b0 ad Hb tau) 29 139 [.ref 1, .ref 38, .long 3402] h (some (.int w), h2) ∧ (w = 0 ↔ can 3402 = true) ∧ ∃ V2, YH 84 62986 V2 h2 ∧ IC V2 (m + 1) x := by
  obtain ⟨ne, s, mc, TS, hP, n1, nm, h38, h42, hTS, h83, h36, h40, h41, hKM⟩ := hI
  obtain ⟨h2, hca, T2, hY2, hT2⟩ := dd_3402 (l := l) (D := D) (b0 := b0) (ad := ad) (Hb := Hb) (tau := tau) hY hP.1 h38 h42 hTS
  have hf := frY (l := [42]) hY2 (fr.up fr.rfl' rfl)
  exact ⟨h2, 2, hca, by decide +kernel, _, hY2, ne, s, mc, T2, hP.fr hf rfl, n1, by omega, h38, rfl, hT2, h83, h36, h40, h41, hKM.fr hf rfl⟩
theorem da_3403 {m : Nat} {x : Int32} (hY : YH 84 62986 V h) (hI : IC V m x) (hm : m < 60) : ∃ h2 w, mx_Ca (tB l D b0 ad Hb tau) 29 139 [.ref 1, .ref 38, .long 3403] h (some (.int w), h2) ∧ (w = 0 ↔ can 3403 = true) ∧ ∃ V2, YH 84 62986 V2 h2 ∧ IC V2 (m + 1) x := by
  obtain ⟨ne, s, mc, TS, hP, n1, nm, h38, h42, hTS, h83, h36, h40, h41, hKM⟩ := hI
  obtain ⟨h2, hca, T2, hY2, hT2⟩ := dd_3403 (l := l) (D := D) (b0 := b0) (ad := ad) (Hb := Hb) (tau := tau) hY hP.1 h38 h42 hTS
  have hf := frY (l := [42]) hY2 (fr.up fr.rfl' rfl)
  exact ⟨h2, 2, hca, by decide +kernel, _, hY2, ne, s, mc, T2, hP.fr hf rfl, n1, by omega, h38, rfl, hT2, h83, h36, h40, h41, hKM.fr hf rfl⟩
theorem da_3404 {m : Nat} {x : Int32} (hY : YH 84 62986 V h) (hI : IC V m x) (hm : m < 60) : ∃ h2 w, mx_Ca (tB l D b0 ad Hb tau) 29 139 [.ref 1, .ref 38, .long 3404] h (some (.int w), h2) ∧ (w = 0 ↔ can 3404 = true) ∧ ∃ V2, YH 84 62986 V2 h2 ∧ IC V2 (m + 1) x := by
  obtain ⟨ne, s, mc, TS, hP, n1, nm, h38, h42, hTS, h83, h36, h40, h41, hKM⟩ := hI
  obtain ⟨h2, hca, T2, hY2, hT2⟩ := dd_3404 (l := l) (D := D) (b0 := b0) (ad := ad) (Hb := Hb) (tau := tau) hY hP.1 h38 h42 hTS
  have hf := frY (l := [42]) hY2 (fr.up fr.rfl' rfl)
  exact ⟨h2, 2, hca, by decide +kernel, _, hY2, ne, s, mc, T2, hP.fr hf rfl, n1, by omega, h38, rfl, hT2, h83, h36, h40, h41, hKM.fr hf rfl⟩
theorem da_3405 {m : Nat} {x : Int32} (hY : YH 84 62986 V h) (hI : IC V m x) (hm : m < 60) : ∃ h2 w, mx_Ca (tB l D b0 ad Hb tau) 29 139 [.ref 1, .ref 38, .long 3405] h (some (.int w), h2) ∧ (w = 0 ↔ can 3405 = true) ∧ ∃ V2, YH 84 62986 V2 h2 ∧ IC V2 (m + 1) x := by
  obtain ⟨ne, s, mc, TS, hP, n1, nm, h38, h42, hTS, h83, h36, h40, h41, hKM⟩ := hI
  obtain ⟨h2, hca, T2, hY2, hT2⟩ := dd_3405 (l := l) (D := D) (b0 := b0) (ad := ad) (Hb := Hb) (tau := tau) hY hP.1 h38 h42 hTS
  have hf := frY (l := [42]) hY2 (fr.up fr.rfl' rfl)
  exact ⟨h2, 2, hca, by decide +kernel, _, hY2, ne, s, mc, T2, hP.fr hf rfl, n1, by omega, h38, rfl, hT2, h83, h36, h40, h41, hKM.fr hf rfl⟩
theorem da_3500 {m : Nat} {x : Int32} (hY : YH 84 62986 V h) (hI : IC V m x) (hm : m < 60) : ∃ h2 w, mx_Ca (tB l D b0 ad Hb tau) 29 139 [.ref 1, .ref 38, .long 3500] h (some (.int w), h2) ∧ (w = 0 ↔ can 3500 = true) ∧ ∃ V2, YH 84 62986 V2 h2 ∧ IC V2 (m + 1) x := by
  obtain ⟨ne, s, mc, TS, hP, n1, nm, h38, h42, hTS, h83, h36, h40, h41, hKM⟩ := hI
  obtain ⟨h2, hca, T2, hY2, hT2⟩ := dd_3500 (l := l) (D := D) (b0 := b0) (ad := ad) (Hb := Hb) (tau := tau) hY hP.1 h38 h42 hTS
  have hf := frY (l := [42]) hY2 (fr.up fr.rfl' rfl)
  exact ⟨h2, 1, hca, by decide +kernel, _, hY2, ne, s, mc, T2, hP.fr hf rfl, n1, by omega, h38, rfl, hT2, h83, h36, h40, h41, hKM.fr hf rfl⟩
theorem da_3501 {m : Nat} {x : Int32} (hY : YH 84 62986 V h) (hI : IC V m x) (hm : m < 60) : ∃ h2 w, mx_Ca (tB l D b0 ad Hb tau) 29 139 [.ref 1, .ref 38, .long 3501] h (some (.int w), h2) ∧ (w = 0 ↔ can 3501 = true) ∧ ∃ V2, YH 84 62986 V2 h2 ∧ IC V2 (m + 1) x := by
  obtain ⟨ne, s, mc, TS, hP, n1, nm, h38, h42, hTS, h83, h36, h40, h41, hKM⟩ := hI
  obtain ⟨h2, hca, T2, hY2, hT2⟩ := dd_3501 (l := l) (D := D) (b0 := b0) (ad := ad) (Hb := Hb) (tau := tau) hY hP.1 h38 h42 hTS
  have hf := frY (l := [42]) hY2 (fr.up fr.rfl' rfl)
  exact ⟨h2, 2, hca, by decide +kernel, _, hY2, ne, s, mc, T2, hP.fr hf rfl, n1, by omega, h38, rfl, hT2, h83, h36, h40, h41, hKM.fr hf rfl⟩
theorem da_3502 {m : Nat} {x : Int32} (hY : YH 84 62986 V h) (hI : IC V m x) (hm : m < 60) : ∃ h2 w, mx_Ca (tB l D b0 ad Hb tau) 29 139 [.ref 1, .ref 38, .long 3502] h (some (.int w), h2) ∧ (w = 0 ↔ can 3502 = true) ∧ ∃ V2, YH 84 62986 V2 h2 ∧ IC V2 (m + 1) x := by
  obtain ⟨ne, s, mc, TS, hP, n1, nm, h38, h42, hTS, h83, h36, h40, h41, hKM⟩ := hI
  obtain ⟨h2, hca, T2, hY2, hT2⟩ := dd_3502 (l := l) (D := D) (b0 := b0) (ad := ad) (Hb := Hb) (tau := tau) hY hP.1 h38 h42 hTS
  have hf := frY (l := [42]) hY2 (fr.up fr.rfl' rfl)
  exact ⟨h2, 2, hca, by decide +kernel, _, hY2, ne, s, mc, T2, hP.fr hf rfl, n1, by omega, h38, rfl, hT2, h83, h36, h40, h41, hKM.fr hf rfl⟩
theorem da_3503 {m : Nat} {x : Int32} (hY : YH 84 62986 V h) (hI : IC V m x) (hm : m < 60) : ∃ h2 w, mx_Ca (tB l D b0 ad Hb tau) 29 139 [.ref 1, .ref 38, .long 3503] h (some (.int w), h2) ∧ (w = 0 ↔ can 3503 = true) ∧ ∃ V2, YH 84 62986 V2 h2 ∧ IC V2 (m + 1) x := by
  obtain ⟨ne, s, mc, TS, hP, n1, nm, h38, h42, hTS, h83, h36, h40, h41, hKM⟩ := hI
  obtain ⟨h2, hca, T2, hY2, hT2⟩ := dd_3503 (l := l) (D := D) (b0 := b0) (ad := ad) (Hb := Hb) (tau := tau) hY hP.1 h38 h42 hTS
  have hf := frY (l := [42]) hY2 (fr.up fr.rfl' rfl)
  exact ⟨h2, 2, hca, by decide +kernel, _, hY2, ne, s, mc, T2, hP.fr hf rfl, n1, by omega, h38, rfl, hT2, h83, h36, h40, h41, hKM.fr hf rfl⟩
theorem da_3504 {m : Nat} {x : Int32} (hY : YH 84 62986 V h) (hI : IC V m x) (hm : m < 60) : ∃ h2 w, mx_Ca (tB l D b0 ad Hb tau) 29 139 [.ref 1, .ref 38, .long 3504] h (some (.int w), h2) ∧ (w = 0 ↔ can 3504 = true) ∧ ∃ V2, YH 84 62986 V2 h2 ∧ IC V2 (m + 1) x := by
  obtain ⟨ne, s, mc, TS, hP, n1, nm, h38, h42, hTS, h83, h36, h40, h41, hKM⟩ := hI
  obtain ⟨h2, hca, T2, hY2, hT2⟩ := dd_3504 (l := l) (D := D) (b0 := b0) (ad := ad) (Hb := Hb) (tau := tau) hY hP.1 h38 h42 hTS
  have hf := frY (l := [42]) hY2 (fr.up fr.rfl' rfl)
  exact ⟨h2, 2, hca, by decide +kernel, _, hY2, ne, s, mc, T2, hP.fr hf rfl, n1, by omega, h38, rfl, hT2, h83, h36, h40, h41, hKM.fr hf rfl⟩
theorem da_3505 {m : Nat} {x : Int32} (hY : YH 84 62986 V h) (hI : IC V m x) (hm : m < 60) : ∃ h2 w, mx_Ca (tB l D b0 ad Hb tau) 29 139 [.ref 1, .ref 38, .long 3505] h (some (.int w), h2) ∧ (w = 0 ↔ can 3505 = true) ∧ ∃ V2, YH 84 62986 V2 h2 ∧ IC V2 (m + 1) x := by
  obtain ⟨ne, s, mc, TS, hP, n1, nm, h38, h42, hTS, h83, h36, h40, h41, hKM⟩ := hI
  obtain ⟨h2, hca, T2, hY2, hT2⟩ := dd_3505 (l := l) (D := D) (b0 := b0) (ad := ad) (Hb := Hb) (tau := tau) hY hP.1 h38 h42 hTS
  have hf := frY (l := [42]) hY2 (fr.up fr.rfl' rfl)
  exact ⟨h2, 2, hca, by decide +kernel, _, hY2, ne, s, mc, T2, hP.fr hf rfl, n1, by omega, h38, rfl, hT2, h83, h36, h40, h41, hKM.fr hf rfl⟩
theorem da_all {m : Nat} {x v : Int32} (hY : YH 84 62986 V h) (hI : IC V m x) (hm : m < 60) (hv : v ∈ DL) : ∃ h2 w, mx_Ca (tB l D b0 ad Hb tau) 29 139 [.ref 1, .ref 38, .long v.toInt64] h (some (.int w), h2) ∧ (w = 0 ↔ can v = true) ∧ ∃ V2, YH 84 62986 V2 h2 ∧ IC V2 (m + 1) x := by
  rcases List.mem_cons.mp hv with e | hv
  · rw [e, show ((0 : Int32)).toInt64 = 0 by decide +kernel]; exact da_0 hY hI hm
  rcases List.mem_cons.mp hv with e | hv
  · rw [e, show ((1 : Int32)).toInt64 = 1 by decide +kernel]; exact da_1 hY hI hm
  rcases List.mem_cons.mp hv with e | hv
  · rw [e, show ((2 : Int32)).toInt64 = 2 by decide +kernel]; exact da_2 hY hI hm
  rcases List.mem_cons.mp hv with e | hv
  · rw [e, show ((3 : Int32)).toInt64 = 3 by decide +kernel]; exact da_3 hY hI hm
  rcases List.mem_cons.mp hv with e | hv
  · rw [e, show ((4 : Int32)).toInt64 = 4 by decide +kernel]; exact da_4 hY hI hm
  rcases List.mem_cons.mp hv with e | hv
  · rw [e, show ((5 : Int32)).toInt64 = 5 by decide +kernel]; exact da_5 hY hI hm
  rcases List.mem_cons.mp hv with e | hv
  · rw [e, show ((6 : Int32)).toInt64 = 6 by decide +kernel]; exact da_6 hY hI hm
  rcases List.mem_cons.mp hv with e | hv
  · rw [e, show ((7 : Int32)).toInt64 = 7 by decide +kernel]; exact da_7 hY hI hm
  rcases List.mem_cons.mp hv with e | hv
  · rw [e, show ((20 : Int32)).toInt64 = 20 by decide +kernel]; exact da_20 hY hI hm
  rcases List.mem_cons.mp hv with e | hv
  · rw [e, show ((21 : Int32)).toInt64 = 21 by decide +kernel]; exact da_21 hY hI hm
  rcases List.mem_cons.mp hv with e | hv
  · rw [e, show ((22 : Int32)).toInt64 = 22 by decide +kernel]; exact da_22 hY hI hm
  rcases List.mem_cons.mp hv with e | hv
  · rw [e, show ((23 : Int32)).toInt64 = 23 by decide +kernel]; exact da_23 hY hI hm
  rcases List.mem_cons.mp hv with e | hv
  · rw [e, show ((24 : Int32)).toInt64 = 24 by decide +kernel]; exact da_24 hY hI hm
  rcases List.mem_cons.mp hv with e | hv
  · rw [e, show ((25 : Int32)).toInt64 = 25 by decide +kernel]; exact da_25 hY hI hm
  rcases List.mem_cons.mp hv with e | hv
  · rw [e, show ((26 : Int32)).toInt64 = 26 by decide +kernel]; exact da_26 hY hI hm
  rcases List.mem_cons.mp hv with e | hv
  · rw [e, show ((27 : Int32)).toInt64 = 27 by decide +kernel]; exact da_27 hY hI hm
  rcases List.mem_cons.mp hv with e | hv
  · rw [e, show ((28 : Int32)).toInt64 = 28 by decide +kernel]; exact da_28 hY hI hm
  rcases List.mem_cons.mp hv with e | hv
  · rw [e, show ((29 : Int32)).toInt64 = 29 by decide +kernel]; exact da_29 hY hI hm
  rcases List.mem_cons.mp hv with e | hv
  · rw [e, show ((3000 : Int32)).toInt64 = 3000 by decide +kernel]; exact da_3000 hY hI hm
  rcases List.mem_cons.mp hv with e | hv
  · rw [e, show ((3001 : Int32)).toInt64 = 3001 by decide +kernel]; exact da_3001 hY hI hm
  rcases List.mem_cons.mp hv with e | hv
  · rw [e, show ((3002 : Int32)).toInt64 = 3002 by decide +kernel]; exact da_3002 hY hI hm
  rcases List.mem_cons.mp hv with e | hv
  · rw [e, show ((3003 : Int32)).toInt64 = 3003 by decide +kernel]; exact da_3003 hY hI hm
  rcases List.mem_cons.mp hv with e | hv
  · rw [e, show ((3004 : Int32)).toInt64 = 3004 by decide +kernel]; exact da_3004 hY hI hm
  rcases List.mem_cons.mp hv with e | hv
  · rw [e, show ((3005 : Int32)).toInt64 = 3005 by decide +kernel]; exact da_3005 hY hI hm
  rcases List.mem_cons.mp hv with e | hv
  · rw [e, show ((3100 : Int32)).toInt64 = 3100 by decide +kernel]; exact da_3100 hY hI hm
  rcases List.mem_cons.mp hv with e | hv
  · rw [e, show ((3101 : Int32)).toInt64 = 3101 by decide +kernel]; exact da_3101 hY hI hm
  rcases List.mem_cons.mp hv with e | hv
  · rw [e, show ((3102 : Int32)).toInt64 = 3102 by decide +kernel]; exact da_3102 hY hI hm
  rcases List.mem_cons.mp hv with e | hv
  · rw [e, show ((3103 : Int32)).toInt64 = 3103 by decide +kernel]; exact da_3103 hY hI hm
  rcases List.mem_cons.mp hv with e | hv
  · rw [e, show ((3104 : Int32)).toInt64 = 3104 by decide +kernel]; exact da_3104 hY hI hm
  rcases List.mem_cons.mp hv with e | hv
  · rw [e, show ((3105 : Int32)).toInt64 = 3105 by decide +kernel]; exact da_3105 hY hI hm
  rcases List.mem_cons.mp hv with e | hv
  · rw [e, show ((3200 : Int32)).toInt64 = 3200 by decide +kernel]; exact da_3200 hY hI hm
  rcases List.mem_cons.mp hv with e | hv
  · rw [e, show ((3201 : Int32)).toInt64 = 3201 by decide +kernel]; exact da_3201 hY hI hm
  rcases List.mem_cons.mp hv with e | hv
  · rw [e, show ((3202 : Int32)).toInt64 = 3202 by decide +kernel]; exact da_3202 hY hI hm
  rcases List.mem_cons.mp hv with e | hv
  · rw [e, show ((3203 : Int32)).toInt64 = 3203 by decide +kernel]; exact da_3203 hY hI hm
  rcases List.mem_cons.mp hv with e | hv
  · rw [e, show ((3204 : Int32)).toInt64 = 3204 by decide +kernel]; exact da_3204 hY hI hm
  rcases List.mem_cons.mp hv with e | hv
  · rw [e, show ((3205 : Int32)).toInt64 = 3205 by decide +kernel]; exact da_3205 hY hI hm
  rcases List.mem_cons.mp hv with e | hv
  · rw [e, show ((3300 : Int32)).toInt64 = 3300 by decide +kernel]; exact da_3300 hY hI hm
  rcases List.mem_cons.mp hv with e | hv
  · rw [e, show ((3301 : Int32)).toInt64 = 3301 by decide +kernel]; exact da_3301 hY hI hm
  rcases List.mem_cons.mp hv with e | hv
  · rw [e, show ((3302 : Int32)).toInt64 = 3302 by decide +kernel]; exact da_3302 hY hI hm
  rcases List.mem_cons.mp hv with e | hv
  · rw [e, show ((3303 : Int32)).toInt64 = 3303 by decide +kernel]; exact da_3303 hY hI hm
  rcases List.mem_cons.mp hv with e | hv
  · rw [e, show ((3304 : Int32)).toInt64 = 3304 by decide +kernel]; exact da_3304 hY hI hm
  rcases List.mem_cons.mp hv with e | hv
  · rw [e, show ((3305 : Int32)).toInt64 = 3305 by decide +kernel]; exact da_3305 hY hI hm
  rcases List.mem_cons.mp hv with e | hv
  · rw [e, show ((3400 : Int32)).toInt64 = 3400 by decide +kernel]; exact da_3400 hY hI hm
  rcases List.mem_cons.mp hv with e | hv
  · rw [e, show ((3401 : Int32)).toInt64 = 3401 by decide +kernel]; exact da_3401 hY hI hm
  rcases List.mem_cons.mp hv with e | hv
  · rw [e, show ((3402 : Int32)).toInt64 = 3402 by decide +kernel]; exact da_3402 hY hI hm
  rcases List.mem_cons.mp hv with e | hv
  · rw [e, show ((3403 : Int32)).toInt64 = 3403 by decide +kernel]; exact da_3403 hY hI hm
  rcases List.mem_cons.mp hv with e | hv
  · rw [e, show ((3404 : Int32)).toInt64 = 3404 by decide +kernel]; exact da_3404 hY hI hm
  rcases List.mem_cons.mp hv with e | hv
  · rw [e, show ((3405 : Int32)).toInt64 = 3405 by decide +kernel]; exact da_3405 hY hI hm
  rcases List.mem_cons.mp hv with e | hv
  · rw [e, show ((3500 : Int32)).toInt64 = 3500 by decide +kernel]; exact da_3500 hY hI hm
  rcases List.mem_cons.mp hv with e | hv
  · rw [e, show ((3501 : Int32)).toInt64 = 3501 by decide +kernel]; exact da_3501 hY hI hm
  rcases List.mem_cons.mp hv with e | hv
  · rw [e, show ((3502 : Int32)).toInt64 = 3502 by decide +kernel]; exact da_3502 hY hI hm
  rcases List.mem_cons.mp hv with e | hv
  · rw [e, show ((3503 : Int32)).toInt64 = 3503 by decide +kernel]; exact da_3503 hY hI hm
  rcases List.mem_cons.mp hv with e | hv
  · rw [e, show ((3504 : Int32)).toInt64 = 3504 by decide +kernel]; exact da_3504 hY hI hm
  rcases List.mem_cons.mp hv with e | hv
  · rw [e, show ((3505 : Int32)).toInt64 = 3505 by decide +kernel]; exact da_3505 hY hI hm
  cases hv
end WK3
