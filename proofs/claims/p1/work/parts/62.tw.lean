section TW
variable {s : State} {l : Launch} {D : va_G} {a0 : Nat} {ag : Nat → Int64} {xs : Nat → Int32}
theorem tw_0 (hag : (∀ i, 1 ≤ i → i ≤ 5 → ag i = (xs i).toInt64) ∧ ag 6 = ((xs 1).toInt64 <<< ((32 : Int32).toInt64 &&& 63) ||| ((xs 2).toInt64 &&& 4294967295)) ∧ ag 7 = ((xs 3).toInt64 <<< ((32 : Int32).toInt64 &&& 63) ||| ((xs 4).toInt64 &&& 4294967295))) : ∃ as : List Value, as.map (mx_v (tB l D s.heap.size (fun _ => a0) s.heap (mx_tau ag)).2.1.1) = [.int (xs 1), .int (xs 2), .int (xs 3), .int (xs 4), .int (xs 5)] ∧ as.length = 5 ∧ mx_Tw (tB l D s.heap.size (fun _ => a0) s.heap (mx_tau ag)) false 89 157 as := by
  obtain ⟨a, ha, ea⟩ := mx_cov_all (E := (tB l D s.heap.size (fun _ => a0) s.heap (mx_tau ag)).2.1.1) rfl (p := 1) (hag.1 1 (by decide) (by decide)) cc_0_1
  obtain ⟨b, hb, eb⟩ := mx_cov_all (E := (tB l D s.heap.size (fun _ => a0) s.heap (mx_tau ag)).2.1.1) rfl (p := 2) (hag.1 2 (by decide) (by decide)) cc_0_2
  obtain ⟨c, hc, ec⟩ := mx_cov_all (E := (tB l D s.heap.size (fun _ => a0) s.heap (mx_tau ag)).2.1.1) rfl (p := 3) (hag.1 3 (by decide) (by decide)) cc_0_3
  obtain ⟨d, hd, ed⟩ := mx_cov_all (E := (tB l D s.heap.size (fun _ => a0) s.heap (mx_tau ag)).2.1.1) rfl (p := 4) (hag.1 4 (by decide) (by decide)) cc_0_4
  obtain ⟨e, he, ee⟩ := mx_cov_all (E := (tB l D s.heap.size (fun _ => a0) s.heap (mx_tau ag)).2.1.1) rfl (p := 5) (hag.1 5 (by decide) (by decide)) cc_0_5
  refine ⟨[a, b, c, d, e], by simp only [List.map_cons, List.map_nil, ea, eb, ec, ed, ee], rfl, ck2_ok ?_⟩
  exact List.all_eq_true.mp (List.all_eq_true.mp (List.all_eq_true.mp (List.all_eq_true.mp (List.all_eq_true.mp ek_0 a ha) b hb) c hc) d hd) e he
theorem tw_1 (hag : (∀ i, 1 ≤ i → i ≤ 5 → ag i = (xs i).toInt64) ∧ ag 6 = ((xs 1).toInt64 <<< ((32 : Int32).toInt64 &&& 63) ||| ((xs 2).toInt64 &&& 4294967295)) ∧ ag 7 = ((xs 3).toInt64 <<< ((32 : Int32).toInt64 &&& 63) ||| ((xs 4).toInt64 &&& 4294967295))) : ∃ as : List Value, as.map (mx_v (tB l D s.heap.size (fun _ => a0) s.heap (mx_tau ag)).2.1.1) = [.int (xs 1)] ∧ as.length = 1 ∧ mx_Tw (tB l D s.heap.size (fun _ => a0) s.heap (mx_tau ag)) false 90 182 as := by
  obtain ⟨a, ha, ea⟩ := mx_cov_all (E := (tB l D s.heap.size (fun _ => a0) s.heap (mx_tau ag)).2.1.1) rfl (p := 1) (hag.1 1 (by decide) (by decide)) cc_1_1
  refine ⟨[a], by simp only [List.map_cons, List.map_nil, ea], rfl, ck2_ok ?_⟩
  exact List.all_eq_true.mp ek_1 a ha
theorem tw_2 (hag : (∀ i, 1 ≤ i → i ≤ 5 → ag i = (xs i).toInt64) ∧ ag 6 = ((xs 1).toInt64 <<< ((32 : Int32).toInt64 &&& 63) ||| ((xs 2).toInt64 &&& 4294967295)) ∧ ag 7 = ((xs 3).toInt64 <<< ((32 : Int32).toInt64 &&& 63) ||| ((xs 4).toInt64 &&& 4294967295))) : ∃ as : List Value, as.map (mx_v (tB l D s.heap.size (fun _ => a0) s.heap (mx_tau ag)).2.1.1) = [.int (xs 1)] ∧ as.length = 1 ∧ mx_Tw (tB l D s.heap.size (fun _ => a0) s.heap (mx_tau ag)) false 91 183 as := by
  obtain ⟨a, ha, ea⟩ := mx_cov_all (E := (tB l D s.heap.size (fun _ => a0) s.heap (mx_tau ag)).2.1.1) rfl (p := 1) (hag.1 1 (by decide) (by decide)) cc_2_1
  refine ⟨[a], by simp only [List.map_cons, List.map_nil, ea], rfl, ck2_ok ?_⟩
  exact List.all_eq_true.mp ek_2 a ha
theorem tw_3 (hag : (∀ i, 1 ≤ i → i ≤ 5 → ag i = (xs i).toInt64) ∧ ag 6 = ((xs 1).toInt64 <<< ((32 : Int32).toInt64 &&& 63) ||| ((xs 2).toInt64 &&& 4294967295)) ∧ ag 7 = ((xs 3).toInt64 <<< ((32 : Int32).toInt64 &&& 63) ||| ((xs 4).toInt64 &&& 4294967295))) : ∃ as : List Value, as.map (mx_v (tB l D s.heap.size (fun _ => a0) s.heap (mx_tau ag)).2.1.1) = [.int (xs 1)] ∧ as.length = 1 ∧ mx_Tw (tB l D s.heap.size (fun _ => a0) s.heap (mx_tau ag)) false 92 199 as := by
  obtain ⟨a, ha, ea⟩ := mx_cov_all (E := (tB l D s.heap.size (fun _ => a0) s.heap (mx_tau ag)).2.1.1) rfl (p := 1) (hag.1 1 (by decide) (by decide)) cc_3_1
  refine ⟨[a], by simp only [List.map_cons, List.map_nil, ea], rfl, ck2_ok ?_⟩
  exact List.all_eq_true.mp ek_3 a ha
theorem tw_4 (hag : (∀ i, 1 ≤ i → i ≤ 5 → ag i = (xs i).toInt64) ∧ ag 6 = ((xs 1).toInt64 <<< ((32 : Int32).toInt64 &&& 63) ||| ((xs 2).toInt64 &&& 4294967295)) ∧ ag 7 = ((xs 3).toInt64 <<< ((32 : Int32).toInt64 &&& 63) ||| ((xs 4).toInt64 &&& 4294967295))) : ∃ as : List Value, as.map (mx_v (tB l D s.heap.size (fun _ => a0) s.heap (mx_tau ag)).2.1.1) = [.int (xs 1)] ∧ as.length = 1 ∧ mx_Tw (tB l D s.heap.size (fun _ => a0) s.heap (mx_tau ag)) false 93 200 as := by
  obtain ⟨a, ha, ea⟩ := mx_cov_all (E := (tB l D s.heap.size (fun _ => a0) s.heap (mx_tau ag)).2.1.1) rfl (p := 1) (hag.1 1 (by decide) (by decide)) cc_4_1
  refine ⟨[a], by simp only [List.map_cons, List.map_nil, ea], rfl, ck2_ok ?_⟩
  exact List.all_eq_true.mp ek_4 a ha
theorem tw_5 (hag : (∀ i, 1 ≤ i → i ≤ 5 → ag i = (xs i).toInt64) ∧ ag 6 = ((xs 1).toInt64 <<< ((32 : Int32).toInt64 &&& 63) ||| ((xs 2).toInt64 &&& 4294967295)) ∧ ag 7 = ((xs 3).toInt64 <<< ((32 : Int32).toInt64 &&& 63) ||| ((xs 4).toInt64 &&& 4294967295))) : ∃ as : List Value, as.map (mx_v (tB l D s.heap.size (fun _ => a0) s.heap (mx_tau ag)).2.1.1) = [.int (xs 1), .int (xs 2)] ∧ as.length = 2 ∧ mx_Tw (tB l D s.heap.size (fun _ => a0) s.heap (mx_tau ag)) false 94 201 as := by
  obtain ⟨a, ha, ea⟩ := mx_cov_all (E := (tB l D s.heap.size (fun _ => a0) s.heap (mx_tau ag)).2.1.1) rfl (p := 1) (hag.1 1 (by decide) (by decide)) cc_5_1
  obtain ⟨b, hb, eb⟩ := mx_cov_all (E := (tB l D s.heap.size (fun _ => a0) s.heap (mx_tau ag)).2.1.1) rfl (p := 2) (hag.1 2 (by decide) (by decide)) cc_5_2
  refine ⟨[a, b], by simp only [List.map_cons, List.map_nil, ea, eb], rfl, ck3_tw ?_⟩
  exact List.all_eq_true.mp (List.all_eq_true.mp ek_5 a ha) b hb
theorem tw_6 (hag : (∀ i, 1 ≤ i → i ≤ 5 → ag i = (xs i).toInt64) ∧ ag 6 = ((xs 1).toInt64 <<< ((32 : Int32).toInt64 &&& 63) ||| ((xs 2).toInt64 &&& 4294967295)) ∧ ag 7 = ((xs 3).toInt64 <<< ((32 : Int32).toInt64 &&& 63) ||| ((xs 4).toInt64 &&& 4294967295))) : ∃ as : List Value, as.map (mx_v (tB l D s.heap.size (fun _ => a0) s.heap (mx_tau ag)).2.1.1) = [.int (xs 1)] ∧ as.length = 1 ∧ mx_Tw (tB l D s.heap.size (fun _ => a0) s.heap (mx_tau ag)) false 95 206 as := by
  obtain ⟨a, ha, ea⟩ := mx_cov_all (E := (tB l D s.heap.size (fun _ => a0) s.heap (mx_tau ag)).2.1.1) rfl (p := 1) (hag.1 1 (by decide) (by decide)) cc_6_1
  refine ⟨[a], by simp only [List.map_cons, List.map_nil, ea], rfl, ck2_ok ?_⟩
  exact List.all_eq_true.mp ek_6 a ha
theorem tw_8 (hag : (∀ i, 1 ≤ i → i ≤ 5 → ag i = (xs i).toInt64) ∧ ag 6 = ((xs 1).toInt64 <<< ((32 : Int32).toInt64 &&& 63) ||| ((xs 2).toInt64 &&& 4294967295)) ∧ ag 7 = ((xs 3).toInt64 <<< ((32 : Int32).toInt64 &&& 63) ||| ((xs 4).toInt64 &&& 4294967295))) : ∃ as : List Value, as.map (mx_v (tB l D s.heap.size (fun _ => a0) s.heap (mx_tau ag)).2.1.1) = [.int (xs 1), .int (xs 2)] ∧ as.length = 2 ∧ mx_Tw (tB l D s.heap.size (fun _ => a0) s.heap (mx_tau ag)) false 97 211 as := by
  obtain ⟨a, ha, ea⟩ := mx_cov_all (E := (tB l D s.heap.size (fun _ => a0) s.heap (mx_tau ag)).2.1.1) rfl (p := 1) (hag.1 1 (by decide) (by decide)) cc_8_1
  obtain ⟨b, hb, eb⟩ := mx_cov_all (E := (tB l D s.heap.size (fun _ => a0) s.heap (mx_tau ag)).2.1.1) rfl (p := 2) (hag.1 2 (by decide) (by decide)) cc_8_2
  refine ⟨[a, b], by simp only [List.map_cons, List.map_nil, ea, eb], rfl, ck3_tw ?_⟩
  exact List.all_eq_true.mp (List.all_eq_true.mp ek_8 a ha) b hb
theorem tw_9 (hag : (∀ i, 1 ≤ i → i ≤ 5 → ag i = (xs i).toInt64) ∧ ag 6 = ((xs 1).toInt64 <<< ((32 : Int32).toInt64 &&& 63) ||| ((xs 2).toInt64 &&& 4294967295)) ∧ ag 7 = ((xs 3).toInt64 <<< ((32 : Int32).toInt64 &&& 63) ||| ((xs 4).toInt64 &&& 4294967295))) : ∃ as : List Value, as.map (mx_v (tB l D s.heap.size (fun _ => a0) s.heap (mx_tau ag)).2.1.1) = [.int (xs 1), .int (xs 2)] ∧ as.length = 2 ∧ mx_Tw (tB l D s.heap.size (fun _ => a0) s.heap (mx_tau ag)) false 98 214 as := by
  obtain ⟨a, ha, ea⟩ := mx_cov_all (E := (tB l D s.heap.size (fun _ => a0) s.heap (mx_tau ag)).2.1.1) rfl (p := 1) (hag.1 1 (by decide) (by decide)) cc_9_1
  obtain ⟨b, hb, eb⟩ := mx_cov_all (E := (tB l D s.heap.size (fun _ => a0) s.heap (mx_tau ag)).2.1.1) rfl (p := 2) (hag.1 2 (by decide) (by decide)) cc_9_2
  refine ⟨[a, b], by simp only [List.map_cons, List.map_nil, ea, eb], rfl, ck3_tw ?_⟩
  exact List.all_eq_true.mp (List.all_eq_true.mp ek_9 a ha) b hb
theorem tw_10 (hag : (∀ i, 1 ≤ i → i ≤ 5 → ag i = (xs i).toInt64) ∧ ag 6 = ((xs 1).toInt64 <<< ((32 : Int32).toInt64 &&& 63) ||| ((xs 2).toInt64 &&& 4294967295)) ∧ ag 7 = ((xs 3).toInt64 <<< ((32 : Int32).toInt64 &&& 63) ||| ((xs 4).toInt64 &&& 4294967295))) : ∃ as : List Value, as.map (mx_v (tB l D s.heap.size (fun _ => a0) s.heap (mx_tau ag)).2.1.1) = [.int (xs 1)] ∧ as.length = 1 ∧ mx_Tw (tB l D s.heap.size (fun _ => a0) s.heap (mx_tau ag)) false 99 215 as := by
  obtain ⟨a, ha, ea⟩ := mx_cov_all (E := (tB l D s.heap.size (fun _ => a0) s.heap (mx_tau ag)).2.1.1) rfl (p := 1) (hag.1 1 (by decide) (by decide)) cc_10_1
  refine ⟨[a], by simp only [List.map_cons, List.map_nil, ea], rfl, ck2_ok ?_⟩
  exact List.all_eq_true.mp ek_10 a ha
theorem tw_11 (hag : (∀ i, 1 ≤ i → i ≤ 5 → ag i = (xs i).toInt64) ∧ ag 6 = ((xs 1).toInt64 <<< ((32 : Int32).toInt64 &&& 63) ||| ((xs 2).toInt64 &&& 4294967295)) ∧ ag 7 = ((xs 3).toInt64 <<< ((32 : Int32).toInt64 &&& 63) ||| ((xs 4).toInt64 &&& 4294967295))) : ∃ as : List Value, as.map (mx_v (tB l D s.heap.size (fun _ => a0) s.heap (mx_tau ag)).2.1.1) = [.int (xs 1)] ∧ as.length = 1 ∧ mx_Tw (tB l D s.heap.size (fun _ => a0) s.heap (mx_tau ag)) false 100 216 as := by
  obtain ⟨a, ha, ea⟩ := mx_cov_all (E := (tB l D s.heap.size (fun _ => a0) s.heap (mx_tau ag)).2.1.1) rfl (p := 1) (hag.1 1 (by decide) (by decide)) cc_11_1
  refine ⟨[a], by simp only [List.map_cons, List.map_nil, ea], rfl, ck2_ok ?_⟩
  exact List.all_eq_true.mp ek_11 a ha
theorem tw_12 (hag : (∀ i, 1 ≤ i → i ≤ 5 → ag i = (xs i).toInt64) ∧ ag 6 = ((xs 1).toInt64 <<< ((32 : Int32).toInt64 &&& 63) ||| ((xs 2).toInt64 &&& 4294967295)) ∧ ag 7 = ((xs 3).toInt64 <<< ((32 : Int32).toInt64 &&& 63) ||| ((xs 4).toInt64 &&& 4294967295))) : ∃ as : List Value, as.map (mx_v (tB l D s.heap.size (fun _ => a0) s.heap (mx_tau ag)).2.1.1) = [.int (xs 1), .int (xs 2)] ∧ as.length = 2 ∧ mx_Tw (tB l D s.heap.size (fun _ => a0) s.heap (mx_tau ag)) false 101 221 as := by
  obtain ⟨a, ha, ea⟩ := mx_cov_all (E := (tB l D s.heap.size (fun _ => a0) s.heap (mx_tau ag)).2.1.1) rfl (p := 1) (hag.1 1 (by decide) (by decide)) cc_12_1
  obtain ⟨b, hb, eb⟩ := mx_cov_all (E := (tB l D s.heap.size (fun _ => a0) s.heap (mx_tau ag)).2.1.1) rfl (p := 2) (hag.1 2 (by decide) (by decide)) cc_12_2
  refine ⟨[a, b], by simp only [List.map_cons, List.map_nil, ea, eb], rfl, ck2_ok ?_⟩
  exact List.all_eq_true.mp (List.all_eq_true.mp ek_12 a ha) b hb
theorem tw_13 (hag : (∀ i, 1 ≤ i → i ≤ 5 → ag i = (xs i).toInt64) ∧ ag 6 = ((xs 1).toInt64 <<< ((32 : Int32).toInt64 &&& 63) ||| ((xs 2).toInt64 &&& 4294967295)) ∧ ag 7 = ((xs 3).toInt64 <<< ((32 : Int32).toInt64 &&& 63) ||| ((xs 4).toInt64 &&& 4294967295))) : ∃ as : List Value, as.map (mx_v (tB l D s.heap.size (fun _ => a0) s.heap (mx_tau ag)).2.1.1) = [.int (xs 1)] ∧ as.length = 1 ∧ mx_Tw (tB l D s.heap.size (fun _ => a0) s.heap (mx_tau ag)) false 102 222 as := by
  obtain ⟨a, ha, ea⟩ := mx_cov_all (E := (tB l D s.heap.size (fun _ => a0) s.heap (mx_tau ag)).2.1.1) rfl (p := 1) (hag.1 1 (by decide) (by decide)) cc_13_1
  refine ⟨[a], by simp only [List.map_cons, List.map_nil, ea], rfl, ck2_ok ?_⟩
  exact List.all_eq_true.mp ek_13 a ha
theorem tw_15 (hag : (∀ i, 1 ≤ i → i ≤ 5 → ag i = (xs i).toInt64) ∧ ag 6 = ((xs 1).toInt64 <<< ((32 : Int32).toInt64 &&& 63) ||| ((xs 2).toInt64 &&& 4294967295)) ∧ ag 7 = ((xs 3).toInt64 <<< ((32 : Int32).toInt64 &&& 63) ||| ((xs 4).toInt64 &&& 4294967295))) : ∃ as : List Value, as.map (mx_v (tB l D s.heap.size (fun _ => a0) s.heap (mx_tau ag)).2.1.1) = [.long ((xs 1).toInt64 <<< ((32 : Int32).toInt64 &&& 63) ||| ((xs 2).toInt64 &&& 4294967295))] ∧ as.length = 1 ∧ mx_Tw (tB l D s.heap.size (fun _ => a0) s.heap (mx_tau ag)) false 104 228 as := by
  obtain ⟨a, ha, ea⟩ := mx_covL_all (E := (tB l D s.heap.size (fun _ => a0) s.heap (mx_tau ag)).2.1.1) rfl (p := 6) hag.2.1 cc_15_1
  refine ⟨[a], by simp only [List.map_cons, List.map_nil, ea], rfl, ck2_ok ?_⟩
  exact List.all_eq_true.mp ek_15 a ha
theorem tw_16 (hag : (∀ i, 1 ≤ i → i ≤ 5 → ag i = (xs i).toInt64) ∧ ag 6 = ((xs 1).toInt64 <<< ((32 : Int32).toInt64 &&& 63) ||| ((xs 2).toInt64 &&& 4294967295)) ∧ ag 7 = ((xs 3).toInt64 <<< ((32 : Int32).toInt64 &&& 63) ||| ((xs 4).toInt64 &&& 4294967295))) : ∃ as : List Value, as.map (mx_v (tB l D s.heap.size (fun _ => a0) s.heap (mx_tau ag)).2.1.1) = [.int (xs 1)] ∧ as.length = 1 ∧ mx_Tw (tB l D s.heap.size (fun _ => a0) s.heap (mx_tau ag)) false 105 229 as := by
  obtain ⟨a, ha, ea⟩ := mx_cov_all (E := (tB l D s.heap.size (fun _ => a0) s.heap (mx_tau ag)).2.1.1) rfl (p := 1) (hag.1 1 (by decide) (by decide)) cc_16_1
  refine ⟨[a], by simp only [List.map_cons, List.map_nil, ea], rfl, ck2_ok ?_⟩
  exact List.all_eq_true.mp ek_16 a ha
theorem tw_17 (hag : (∀ i, 1 ≤ i → i ≤ 5 → ag i = (xs i).toInt64) ∧ ag 6 = ((xs 1).toInt64 <<< ((32 : Int32).toInt64 &&& 63) ||| ((xs 2).toInt64 &&& 4294967295)) ∧ ag 7 = ((xs 3).toInt64 <<< ((32 : Int32).toInt64 &&& 63) ||| ((xs 4).toInt64 &&& 4294967295))) : ∃ as : List Value, as.map (mx_v (tB l D s.heap.size (fun _ => a0) s.heap (mx_tau ag)).2.1.1) = [.int (xs 1)] ∧ as.length = 1 ∧ mx_Tw (tB l D s.heap.size (fun _ => a0) s.heap (mx_tau ag)) false 106 233 as := by
  obtain ⟨a, ha, ea⟩ := mx_cov_all (E := (tB l D s.heap.size (fun _ => a0) s.heap (mx_tau ag)).2.1.1) rfl (p := 1) (hag.1 1 (by decide) (by decide)) cc_17_1
  refine ⟨[a], by simp only [List.map_cons, List.map_nil, ea], rfl, ck2_ok ?_⟩
  exact List.all_eq_true.mp ek_17 a ha
theorem tw_18 (hag : (∀ i, 1 ≤ i → i ≤ 5 → ag i = (xs i).toInt64) ∧ ag 6 = ((xs 1).toInt64 <<< ((32 : Int32).toInt64 &&& 63) ||| ((xs 2).toInt64 &&& 4294967295)) ∧ ag 7 = ((xs 3).toInt64 <<< ((32 : Int32).toInt64 &&& 63) ||| ((xs 4).toInt64 &&& 4294967295))) : ∃ as : List Value, as.map (mx_v (tB l D s.heap.size (fun _ => a0) s.heap (mx_tau ag)).2.1.1) = [.int (xs 1)] ∧ as.length = 1 ∧ mx_Tw (tB l D s.heap.size (fun _ => a0) s.heap (mx_tau ag)) false 107 234 as := by
  obtain ⟨a, ha, ea⟩ := mx_cov_all (E := (tB l D s.heap.size (fun _ => a0) s.heap (mx_tau ag)).2.1.1) rfl (p := 1) (hag.1 1 (by decide) (by decide)) cc_18_1
  refine ⟨[a], by simp only [List.map_cons, List.map_nil, ea], rfl, ck2_ok ?_⟩
  exact List.all_eq_true.mp ek_18 a ha
theorem tw_19 (hag : (∀ i, 1 ≤ i → i ≤ 5 → ag i = (xs i).toInt64) ∧ ag 6 = ((xs 1).toInt64 <<< ((32 : Int32).toInt64 &&& 63) ||| ((xs 2).toInt64 &&& 4294967295)) ∧ ag 7 = ((xs 3).toInt64 <<< ((32 : Int32).toInt64 &&& 63) ||| ((xs 4).toInt64 &&& 4294967295))) : ∃ as : List Value, as.map (mx_v (tB l D s.heap.size (fun _ => a0) s.heap (mx_tau ag)).2.1.1) = [.int (xs 1)] ∧ as.length = 1 ∧ mx_Tw (tB l D s.heap.size (fun _ => a0) s.heap (mx_tau ag)) false 108 241 as := by
  obtain ⟨a, ha, ea⟩ := mx_cov_all (E := (tB l D s.heap.size (fun _ => a0) s.heap (mx_tau ag)).2.1.1) rfl (p := 1) (hag.1 1 (by decide) (by decide)) cc_19_1
  refine ⟨[a], by simp only [List.map_cons, List.map_nil, ea], rfl, ck2_ok ?_⟩
  exact List.all_eq_true.mp ek_19 a ha
theorem tw_20 (hag : (∀ i, 1 ≤ i → i ≤ 5 → ag i = (xs i).toInt64) ∧ ag 6 = ((xs 1).toInt64 <<< ((32 : Int32).toInt64 &&& 63) ||| ((xs 2).toInt64 &&& 4294967295)) ∧ ag 7 = ((xs 3).toInt64 <<< ((32 : Int32).toInt64 &&& 63) ||| ((xs 4).toInt64 &&& 4294967295))) : ∃ as : List Value, as.map (mx_v (tB l D s.heap.size (fun _ => a0) s.heap (mx_tau ag)).2.1.1) = [.int (xs 1), .int (xs 2)] ∧ as.length = 2 ∧ mx_Tw (tB l D s.heap.size (fun _ => a0) s.heap (mx_tau ag)) false 109 242 as := by
  obtain ⟨a, ha, ea⟩ := mx_cov_all (E := (tB l D s.heap.size (fun _ => a0) s.heap (mx_tau ag)).2.1.1) rfl (p := 1) (hag.1 1 (by decide) (by decide)) cc_20_1
  obtain ⟨b, hb, eb⟩ := mx_cov_all (E := (tB l D s.heap.size (fun _ => a0) s.heap (mx_tau ag)).2.1.1) rfl (p := 2) (hag.1 2 (by decide) (by decide)) cc_20_2
  refine ⟨[a, b], by simp only [List.map_cons, List.map_nil, ea, eb], rfl, ck2_ok ?_⟩
  exact List.all_eq_true.mp (List.all_eq_true.mp ek_20 a ha) b hb
theorem tw_22 (hag : (∀ i, 1 ≤ i → i ≤ 5 → ag i = (xs i).toInt64) ∧ ag 6 = ((xs 1).toInt64 <<< ((32 : Int32).toInt64 &&& 63) ||| ((xs 2).toInt64 &&& 4294967295)) ∧ ag 7 = ((xs 3).toInt64 <<< ((32 : Int32).toInt64 &&& 63) ||| ((xs 4).toInt64 &&& 4294967295))) : ∃ as : List Value, as.map (mx_v (tB l D s.heap.size (fun _ => a0) s.heap (mx_tau ag)).2.1.1) = [.int (xs 1)] ∧ as.length = 1 ∧ mx_Tw (tB l D s.heap.size (fun _ => a0) s.heap (mx_tau ag)) false 111 247 as := by
  obtain ⟨a, ha, ea⟩ := mx_cov_all (E := (tB l D s.heap.size (fun _ => a0) s.heap (mx_tau ag)).2.1.1) rfl (p := 1) (hag.1 1 (by decide) (by decide)) cc_22_1
  refine ⟨[a], by simp only [List.map_cons, List.map_nil, ea], rfl, ck2_ok ?_⟩
  exact List.all_eq_true.mp ek_22 a ha
theorem tw_23 (hag : (∀ i, 1 ≤ i → i ≤ 5 → ag i = (xs i).toInt64) ∧ ag 6 = ((xs 1).toInt64 <<< ((32 : Int32).toInt64 &&& 63) ||| ((xs 2).toInt64 &&& 4294967295)) ∧ ag 7 = ((xs 3).toInt64 <<< ((32 : Int32).toInt64 &&& 63) ||| ((xs 4).toInt64 &&& 4294967295))) : ∃ as : List Value, as.map (mx_v (tB l D s.heap.size (fun _ => a0) s.heap (mx_tau ag)).2.1.1) = [] ∧ as.length = 0 ∧ mx_Tw (tB l D s.heap.size (fun _ => a0) s.heap (mx_tau ag)) false 112 248 as := ⟨[], rfl, rfl, ck2_ok ek_23⟩
theorem tw_24 (hag : (∀ i, 1 ≤ i → i ≤ 5 → ag i = (xs i).toInt64) ∧ ag 6 = ((xs 1).toInt64 <<< ((32 : Int32).toInt64 &&& 63) ||| ((xs 2).toInt64 &&& 4294967295)) ∧ ag 7 = ((xs 3).toInt64 <<< ((32 : Int32).toInt64 &&& 63) ||| ((xs 4).toInt64 &&& 4294967295))) : ∃ as : List Value, as.map (mx_v (tB l D s.heap.size (fun _ => a0) s.heap (mx_tau ag)).2.1.1) = [.int (xs 1)] ∧ as.length = 1 ∧ mx_Tw (tB l D s.heap.size (fun _ => a0) s.heap (mx_tau ag)) false 113 249 as := by
  obtain ⟨a, ha, ea⟩ := mx_cov_all (E := (tB l D s.heap.size (fun _ => a0) s.heap (mx_tau ag)).2.1.1) rfl (p := 1) (hag.1 1 (by decide) (by decide)) cc_24_1
  refine ⟨[a], by simp only [List.map_cons, List.map_nil, ea], rfl, ck2_ok ?_⟩
  exact List.all_eq_true.mp ek_24 a ha
theorem tw_25 (hag : (∀ i, 1 ≤ i → i ≤ 5 → ag i = (xs i).toInt64) ∧ ag 6 = ((xs 1).toInt64 <<< ((32 : Int32).toInt64 &&& 63) ||| ((xs 2).toInt64 &&& 4294967295)) ∧ ag 7 = ((xs 3).toInt64 <<< ((32 : Int32).toInt64 &&& 63) ||| ((xs 4).toInt64 &&& 4294967295))) : ∃ as : List Value, as.map (mx_v (tB l D s.heap.size (fun _ => a0) s.heap (mx_tau ag)).2.1.1) = [.int (xs 1), .int (xs 2)] ∧ as.length = 2 ∧ mx_Tw (tB l D s.heap.size (fun _ => a0) s.heap (mx_tau ag)) false 114 250 as := by
  obtain ⟨a, ha, ea⟩ := mx_cov_all (E := (tB l D s.heap.size (fun _ => a0) s.heap (mx_tau ag)).2.1.1) rfl (p := 1) (hag.1 1 (by decide) (by decide)) cc_25_1
  obtain ⟨b, hb, eb⟩ := mx_cov_all (E := (tB l D s.heap.size (fun _ => a0) s.heap (mx_tau ag)).2.1.1) rfl (p := 2) (hag.1 2 (by decide) (by decide)) cc_25_2
  refine ⟨[a, b], by simp only [List.map_cons, List.map_nil, ea, eb], rfl, ck2_ok ?_⟩
  exact List.all_eq_true.mp (List.all_eq_true.mp ek_25 a ha) b hb
theorem tw_26 (hag : (∀ i, 1 ≤ i → i ≤ 5 → ag i = (xs i).toInt64) ∧ ag 6 = ((xs 1).toInt64 <<< ((32 : Int32).toInt64 &&& 63) ||| ((xs 2).toInt64 &&& 4294967295)) ∧ ag 7 = ((xs 3).toInt64 <<< ((32 : Int32).toInt64 &&& 63) ||| ((xs 4).toInt64 &&& 4294967295))) : ∃ as : List Value, as.map (mx_v (tB l D s.heap.size (fun _ => a0) s.heap (mx_tau ag)).2.1.1) = [] ∧ as.length = 0 ∧ mx_Tw (tB l D s.heap.size (fun _ => a0) s.heap (mx_tau ag)) false 115 251 as := ⟨[], rfl, rfl, ck2_ok ek_26⟩
theorem tw_27 (hag : (∀ i, 1 ≤ i → i ≤ 5 → ag i = (xs i).toInt64) ∧ ag 6 = ((xs 1).toInt64 <<< ((32 : Int32).toInt64 &&& 63) ||| ((xs 2).toInt64 &&& 4294967295)) ∧ ag 7 = ((xs 3).toInt64 <<< ((32 : Int32).toInt64 &&& 63) ||| ((xs 4).toInt64 &&& 4294967295))) : ∃ as : List Value, as.map (mx_v (tB l D s.heap.size (fun _ => a0) s.heap (mx_tau ag)).2.1.1) = [.int (xs 1)] ∧ as.length = 1 ∧ mx_Tw (tB l D s.heap.size (fun _ => a0) s.heap (mx_tau ag)) false 116 253 as := by
  obtain ⟨a, ha, ea⟩ := mx_cov_all (E := (tB l D s.heap.size (fun _ => a0) s.heap (mx_tau ag)).2.1.1) rfl (p := 1) (hag.1 1 (by decide) (by decide)) cc_27_1
  refine ⟨[a], by simp only [List.map_cons, List.map_nil, ea], rfl, ck2_ok ?_⟩
  exact List.all_eq_true.mp ek_27 a ha
theorem tw_28 (hag : (∀ i, 1 ≤ i → i ≤ 5 → ag i = (xs i).toInt64) ∧ ag 6 = ((xs 1).toInt64 <<< ((32 : Int32).toInt64 &&& 63) ||| ((xs 2).toInt64 &&& 4294967295)) ∧ ag 7 = ((xs 3).toInt64 <<< ((32 : Int32).toInt64 &&& 63) ||| ((xs 4).toInt64 &&& 4294967295))) : ∃ as : List Value, as.map (mx_v (tB l D s.heap.size (fun _ => a0) s.heap (mx_tau ag)).2.1.1) = [] ∧ as.length = 0 ∧ mx_Tw (tB l D s.heap.size (fun _ => a0) s.heap (mx_tau ag)) false 117 254 as := ⟨[], rfl, rfl, ck2_ok ek_28⟩
theorem tw_29 (hag : (∀ i, 1 ≤ i → i ≤ 5 → ag i = (xs i).toInt64) ∧ ag 6 = ((xs 1).toInt64 <<< ((32 : Int32).toInt64 &&& 63) ||| ((xs 2).toInt64 &&& 4294967295)) ∧ ag 7 = ((xs 3).toInt64 <<< ((32 : Int32).toInt64 &&& 63) ||| ((xs 4).toInt64 &&& 4294967295))) : ∃ as : List Value, as.map (mx_v (tB l D s.heap.size (fun _ => a0) s.heap (mx_tau ag)).2.1.1) = [.int (xs 1)] ∧ as.length = 1 ∧ mx_Tw (tB l D s.heap.size (fun _ => a0) s.heap (mx_tau ag)) true 118 258 as := by
  obtain ⟨a, ha, ea⟩ := mx_cov_all (E := (tB l D s.heap.size (fun _ => a0) s.heap (mx_tau ag)).2.1.1) rfl (p := 1) (hag.1 1 (by decide) (by decide)) cc_29_1
  refine ⟨[a], by simp only [List.map_cons, List.map_nil, ea], rfl, ck2_ok ?_⟩
  exact List.all_eq_true.mp ek_29 a ha
theorem tw_30 (hag : (∀ i, 1 ≤ i → i ≤ 5 → ag i = (xs i).toInt64) ∧ ag 6 = ((xs 1).toInt64 <<< ((32 : Int32).toInt64 &&& 63) ||| ((xs 2).toInt64 &&& 4294967295)) ∧ ag 7 = ((xs 3).toInt64 <<< ((32 : Int32).toInt64 &&& 63) ||| ((xs 4).toInt64 &&& 4294967295))) : ∃ as : List Value, as.map (mx_v (tB l D s.heap.size (fun _ => a0) s.heap (mx_tau ag)).2.1.1) = [.int (xs 1), .int (xs 2)] ∧ as.length = 2 ∧ mx_Tw (tB l D s.heap.size (fun _ => a0) s.heap (mx_tau ag)) false 119 259 as := by
  obtain ⟨a, ha, ea⟩ := mx_cov_all (E := (tB l D s.heap.size (fun _ => a0) s.heap (mx_tau ag)).2.1.1) rfl (p := 1) (hag.1 1 (by decide) (by decide)) cc_30_1
  obtain ⟨b, hb, eb⟩ := mx_cov_all (E := (tB l D s.heap.size (fun _ => a0) s.heap (mx_tau ag)).2.1.1) rfl (p := 2) (hag.1 2 (by decide) (by decide)) cc_30_2
  refine ⟨[a, b], by simp only [List.map_cons, List.map_nil, ea, eb], rfl, ck2_ok ?_⟩
  exact List.all_eq_true.mp (List.all_eq_true.mp ek_30 a ha) b hb
theorem tw_31 (hag : (∀ i, 1 ≤ i → i ≤ 5 → ag i = (xs i).toInt64) ∧ ag 6 = ((xs 1).toInt64 <<< ((32 : Int32).toInt64 &&& 63) ||| ((xs 2).toInt64 &&& 4294967295)) ∧ ag 7 = ((xs 3).toInt64 <<< ((32 : Int32).toInt64 &&& 63) ||| ((xs 4).toInt64 &&& 4294967295))) : ∃ as : List Value, as.map (mx_v (tB l D s.heap.size (fun _ => a0) s.heap (mx_tau ag)).2.1.1) = [.int (xs 1), .int (xs 2)] ∧ as.length = 2 ∧ mx_Tw (tB l D s.heap.size (fun _ => a0) s.heap (mx_tau ag)) false 120 260 as := by
  obtain ⟨a, ha, ea⟩ := mx_cov_all (E := (tB l D s.heap.size (fun _ => a0) s.heap (mx_tau ag)).2.1.1) rfl (p := 1) (hag.1 1 (by decide) (by decide)) cc_31_1
  obtain ⟨b, hb, eb⟩ := mx_cov_all (E := (tB l D s.heap.size (fun _ => a0) s.heap (mx_tau ag)).2.1.1) rfl (p := 2) (hag.1 2 (by decide) (by decide)) cc_31_2
  refine ⟨[a, b], by simp only [List.map_cons, List.map_nil, ea, eb], rfl, ck2_ok ?_⟩
  exact List.all_eq_true.mp (List.all_eq_true.mp ek_31 a ha) b hb
theorem tw_32 (hag : (∀ i, 1 ≤ i → i ≤ 5 → ag i = (xs i).toInt64) ∧ ag 6 = ((xs 1).toInt64 <<< ((32 : Int32).toInt64 &&& 63) ||| ((xs 2).toInt64 &&& 4294967295)) ∧ ag 7 = ((xs 3).toInt64 <<< ((32 : Int32).toInt64 &&& 63) ||| ((xs 4).toInt64 &&& 4294967295))) : ∃ as : List Value, as.map (mx_v (tB l D s.heap.size (fun _ => a0) s.heap (mx_tau ag)).2.1.1) = [.int (xs 1)] ∧ as.length = 1 ∧ mx_Tw (tB l D s.heap.size (fun _ => a0) s.heap (mx_tau ag)) false 121 262 as := by
  obtain ⟨a, ha, ea⟩ := mx_cov_all (E := (tB l D s.heap.size (fun _ => a0) s.heap (mx_tau ag)).2.1.1) rfl (p := 1) (hag.1 1 (by decide) (by decide)) cc_32_1
  refine ⟨[a], by simp only [List.map_cons, List.map_nil, ea], rfl, ck2_ok ?_⟩
  exact List.all_eq_true.mp ek_32 a ha
theorem tw_33 (hag : (∀ i, 1 ≤ i → i ≤ 5 → ag i = (xs i).toInt64) ∧ ag 6 = ((xs 1).toInt64 <<< ((32 : Int32).toInt64 &&& 63) ||| ((xs 2).toInt64 &&& 4294967295)) ∧ ag 7 = ((xs 3).toInt64 <<< ((32 : Int32).toInt64 &&& 63) ||| ((xs 4).toInt64 &&& 4294967295))) : ∃ as : List Value, as.map (mx_v (tB l D s.heap.size (fun _ => a0) s.heap (mx_tau ag)).2.1.1) = [.int (xs 1)] ∧ as.length = 1 ∧ mx_Tw (tB l D s.heap.size (fun _ => a0) s.heap (mx_tau ag)) false 122 264 as := by
  obtain ⟨a, ha, ea⟩ := mx_cov_all (E := (tB l D s.heap.size (fun _ => a0) s.heap (mx_tau ag)).2.1.1) rfl (p := 1) (hag.1 1 (by decide) (by decide)) cc_33_1
  refine ⟨[a], by simp only [List.map_cons, List.map_nil, ea], rfl, ck2_ok ?_⟩
  exact List.all_eq_true.mp ek_33 a ha
theorem tw_34 (hag : (∀ i, 1 ≤ i → i ≤ 5 → ag i = (xs i).toInt64) ∧ ag 6 = ((xs 1).toInt64 <<< ((32 : Int32).toInt64 &&& 63) ||| ((xs 2).toInt64 &&& 4294967295)) ∧ ag 7 = ((xs 3).toInt64 <<< ((32 : Int32).toInt64 &&& 63) ||| ((xs 4).toInt64 &&& 4294967295))) : ∃ as : List Value, as.map (mx_v (tB l D s.heap.size (fun _ => a0) s.heap (mx_tau ag)).2.1.1) = [.int (xs 1)] ∧ as.length = 1 ∧ mx_Tw (tB l D s.heap.size (fun _ => a0) s.heap (mx_tau ag)) false 123 268 as := by
  obtain ⟨a, ha, ea⟩ := mx_cov_all (E := (tB l D s.heap.size (fun _ => a0) s.heap (mx_tau ag)).2.1.1) rfl (p := 1) (hag.1 1 (by decide) (by decide)) cc_34_1
  refine ⟨[a], by simp only [List.map_cons, List.map_nil, ea], rfl, ck2_ok ?_⟩
  exact List.all_eq_true.mp ek_34 a ha
theorem tw_35 (hag : (∀ i, 1 ≤ i → i ≤ 5 → ag i = (xs i).toInt64) ∧ ag 6 = ((xs 1).toInt64 <<< ((32 : Int32).toInt64 &&& 63) ||| ((xs 2).toInt64 &&& 4294967295)) ∧ ag 7 = ((xs 3).toInt64 <<< ((32 : Int32).toInt64 &&& 63) ||| ((xs 4).toInt64 &&& 4294967295))) : ∃ as : List Value, as.map (mx_v (tB l D s.heap.size (fun _ => a0) s.heap (mx_tau ag)).2.1.1) = [.int (xs 1)] ∧ as.length = 1 ∧ mx_Tw (tB l D s.heap.size (fun _ => a0) s.heap (mx_tau ag)) false 124 269 as := by
  obtain ⟨a, ha, ea⟩ := mx_cov_all (E := (tB l D s.heap.size (fun _ => a0) s.heap (mx_tau ag)).2.1.1) rfl (p := 1) (hag.1 1 (by decide) (by decide)) cc_35_1
  refine ⟨[a], by simp only [List.map_cons, List.map_nil, ea], rfl, ck2_ok ?_⟩
  exact List.all_eq_true.mp ek_35 a ha
theorem tw_36 (hag : (∀ i, 1 ≤ i → i ≤ 5 → ag i = (xs i).toInt64) ∧ ag 6 = ((xs 1).toInt64 <<< ((32 : Int32).toInt64 &&& 63) ||| ((xs 2).toInt64 &&& 4294967295)) ∧ ag 7 = ((xs 3).toInt64 <<< ((32 : Int32).toInt64 &&& 63) ||| ((xs 4).toInt64 &&& 4294967295))) : ∃ as : List Value, as.map (mx_v (tB l D s.heap.size (fun _ => a0) s.heap (mx_tau ag)).2.1.1) = [.int (xs 1)] ∧ as.length = 1 ∧ mx_Tw (tB l D s.heap.size (fun _ => a0) s.heap (mx_tau ag)) false 125 270 as := by
  obtain ⟨a, ha, ea⟩ := mx_cov_all (E := (tB l D s.heap.size (fun _ => a0) s.heap (mx_tau ag)).2.1.1) rfl (p := 1) (hag.1 1 (by decide) (by decide)) cc_36_1
  refine ⟨[a], by simp only [List.map_cons, List.map_nil, ea], rfl, ck2_ok ?_⟩
  exact List.all_eq_true.mp ek_36 a ha
theorem tw_39 (hag : (∀ i, 1 ≤ i → i ≤ 5 → ag i = (xs i).toInt64) ∧ ag 6 = ((xs 1).toInt64 <<< ((32 : Int32).toInt64 &&& 63) ||| ((xs 2).toInt64 &&& 4294967295)) ∧ ag 7 = ((xs 3).toInt64 <<< ((32 : Int32).toInt64 &&& 63) ||| ((xs 4).toInt64 &&& 4294967295))) : ∃ as : List Value, as.map (mx_v (tB l D s.heap.size (fun _ => a0) s.heap (mx_tau ag)).2.1.1) = [.int (xs 1), .int (xs 2), .int (xs 3)] ∧ as.length = 3 ∧ mx_Tw (tB l D s.heap.size (fun _ => a0) s.heap (mx_tau ag)) false 128 278 as := by
  obtain ⟨a, ha, ea⟩ := mx_cov_all (E := (tB l D s.heap.size (fun _ => a0) s.heap (mx_tau ag)).2.1.1) rfl (p := 1) (hag.1 1 (by decide) (by decide)) cc_39_1
  obtain ⟨b, hb, eb⟩ := mx_cov_all (E := (tB l D s.heap.size (fun _ => a0) s.heap (mx_tau ag)).2.1.1) rfl (p := 2) (hag.1 2 (by decide) (by decide)) cc_39_2
  obtain ⟨c, hc, ec⟩ := mx_cov_all (E := (tB l D s.heap.size (fun _ => a0) s.heap (mx_tau ag)).2.1.1) rfl (p := 3) (hag.1 3 (by decide) (by decide)) cc_39_3
  refine ⟨[a, b, c], by simp only [List.map_cons, List.map_nil, ea, eb, ec], rfl, ck3_tw ?_⟩
  exact List.all_eq_true.mp (List.all_eq_true.mp (List.all_eq_true.mp ek_39 a ha) b hb) c hc
theorem tw_40 (hag : (∀ i, 1 ≤ i → i ≤ 5 → ag i = (xs i).toInt64) ∧ ag 6 = ((xs 1).toInt64 <<< ((32 : Int32).toInt64 &&& 63) ||| ((xs 2).toInt64 &&& 4294967295)) ∧ ag 7 = ((xs 3).toInt64 <<< ((32 : Int32).toInt64 &&& 63) ||| ((xs 4).toInt64 &&& 4294967295))) : ∃ as : List Value, as.map (mx_v (tB l D s.heap.size (fun _ => a0) s.heap (mx_tau ag)).2.1.1) = [.int (xs 1), .int (xs 2), .long ((xs 3).toInt64 <<< ((32 : Int32).toInt64 &&& 63) ||| ((xs 4).toInt64 &&& 4294967295))] ∧ as.length = 3 ∧ mx_Tw (tB l D s.heap.size (fun _ => a0) s.heap (mx_tau ag)) true 129 279 as := by
  obtain ⟨a, ha, ea⟩ := mx_cov_all (E := (tB l D s.heap.size (fun _ => a0) s.heap (mx_tau ag)).2.1.1) rfl (p := 1) (hag.1 1 (by decide) (by decide)) cc_40_1
  obtain ⟨b, hb, eb⟩ := mx_cov_all (E := (tB l D s.heap.size (fun _ => a0) s.heap (mx_tau ag)).2.1.1) rfl (p := 2) (hag.1 2 (by decide) (by decide)) cc_40_2
  obtain ⟨c, hc, ec⟩ := mx_covL_all (E := (tB l D s.heap.size (fun _ => a0) s.heap (mx_tau ag)).2.1.1) rfl (p := 7) hag.2.2 cc_40_3
  refine ⟨[a, b, c], by simp only [List.map_cons, List.map_nil, ea, eb, ec], rfl, ck2_ok ?_⟩
  exact List.all_eq_true.mp (List.all_eq_true.mp (List.all_eq_true.mp ek_40 a ha) b hb) c hc
theorem tw_41 (hag : (∀ i, 1 ≤ i → i ≤ 5 → ag i = (xs i).toInt64) ∧ ag 6 = ((xs 1).toInt64 <<< ((32 : Int32).toInt64 &&& 63) ||| ((xs 2).toInt64 &&& 4294967295)) ∧ ag 7 = ((xs 3).toInt64 <<< ((32 : Int32).toInt64 &&& 63) ||| ((xs 4).toInt64 &&& 4294967295))) : ∃ as : List Value, as.map (mx_v (tB l D s.heap.size (fun _ => a0) s.heap (mx_tau ag)).2.1.1) = [.int (xs 1), .int (xs 2)] ∧ as.length = 2 ∧ mx_Tw (tB l D s.heap.size (fun _ => a0) s.heap (mx_tau ag)) false 130 280 as := by
  obtain ⟨a, ha, ea⟩ := mx_cov_all (E := (tB l D s.heap.size (fun _ => a0) s.heap (mx_tau ag)).2.1.1) rfl (p := 1) (hag.1 1 (by decide) (by decide)) cc_41_1
  obtain ⟨b, hb, eb⟩ := mx_cov_all (E := (tB l D s.heap.size (fun _ => a0) s.heap (mx_tau ag)).2.1.1) rfl (p := 2) (hag.1 2 (by decide) (by decide)) cc_41_2
  refine ⟨[a, b], by simp only [List.map_cons, List.map_nil, ea, eb], rfl, ck2_ok ?_⟩
  exact List.all_eq_true.mp (List.all_eq_true.mp ek_41 a ha) b hb
theorem tw_42 (hag : (∀ i, 1 ≤ i → i ≤ 5 → ag i = (xs i).toInt64) ∧ ag 6 = ((xs 1).toInt64 <<< ((32 : Int32).toInt64 &&& 63) ||| ((xs 2).toInt64 &&& 4294967295)) ∧ ag 7 = ((xs 3).toInt64 <<< ((32 : Int32).toInt64 &&& 63) ||| ((xs 4).toInt64 &&& 4294967295))) : ∃ as : List Value, as.map (mx_v (tB l D s.heap.size (fun _ => a0) s.heap (mx_tau ag)).2.1.1) = [.int (xs 1)] ∧ as.length = 1 ∧ mx_Tw (tB l D s.heap.size (fun _ => a0) s.heap (mx_tau ag)) false 131 281 as := by
  obtain ⟨a, ha, ea⟩ := mx_cov_all (E := (tB l D s.heap.size (fun _ => a0) s.heap (mx_tau ag)).2.1.1) rfl (p := 1) (hag.1 1 (by decide) (by decide)) cc_42_1
  refine ⟨[a], by simp only [List.map_cons, List.map_nil, ea], rfl, ck2_ok ?_⟩
  exact List.all_eq_true.mp ek_42 a ha
theorem tw_43 (hag : (∀ i, 1 ≤ i → i ≤ 5 → ag i = (xs i).toInt64) ∧ ag 6 = ((xs 1).toInt64 <<< ((32 : Int32).toInt64 &&& 63) ||| ((xs 2).toInt64 &&& 4294967295)) ∧ ag 7 = ((xs 3).toInt64 <<< ((32 : Int32).toInt64 &&& 63) ||| ((xs 4).toInt64 &&& 4294967295))) : ∃ as : List Value, as.map (mx_v (tB l D s.heap.size (fun _ => a0) s.heap (mx_tau ag)).2.1.1) = [.int (xs 1)] ∧ as.length = 1 ∧ mx_Tw (tB l D s.heap.size (fun _ => a0) s.heap (mx_tau ag)) false 132 282 as := by
  obtain ⟨a, ha, ea⟩ := mx_cov_all (E := (tB l D s.heap.size (fun _ => a0) s.heap (mx_tau ag)).2.1.1) rfl (p := 1) (hag.1 1 (by decide) (by decide)) cc_43_1
  refine ⟨[a], by simp only [List.map_cons, List.map_nil, ea], rfl, ck2_ok ?_⟩
  exact List.all_eq_true.mp ek_43 a ha
theorem tw_44 (hag : (∀ i, 1 ≤ i → i ≤ 5 → ag i = (xs i).toInt64) ∧ ag 6 = ((xs 1).toInt64 <<< ((32 : Int32).toInt64 &&& 63) ||| ((xs 2).toInt64 &&& 4294967295)) ∧ ag 7 = ((xs 3).toInt64 <<< ((32 : Int32).toInt64 &&& 63) ||| ((xs 4).toInt64 &&& 4294967295))) : ∃ as : List Value, as.map (mx_v (tB l D s.heap.size (fun _ => a0) s.heap (mx_tau ag)).2.1.1) = [.int (xs 1)] ∧ as.length = 1 ∧ mx_Tw (tB l D s.heap.size (fun _ => a0) s.heap (mx_tau ag)) false 133 283 as := by
  obtain ⟨a, ha, ea⟩ := mx_cov_all (E := (tB l D s.heap.size (fun _ => a0) s.heap (mx_tau ag)).2.1.1) rfl (p := 1) (hag.1 1 (by decide) (by decide)) cc_44_1
  refine ⟨[a], by simp only [List.map_cons, List.map_nil, ea], rfl, ck2_ok ?_⟩
  exact List.all_eq_true.mp ek_44 a ha
end TW
