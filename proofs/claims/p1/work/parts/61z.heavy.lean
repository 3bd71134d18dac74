theorem ek_5 : ((cv_5_1).all fun a => (cv_5_2).all fun b => ck3 false 94 201 [a, b]) = true := by
  refine List.all_eq_true.mpr fun a ha => ?_
  refine List.all_eq_true.mpr fun b hb => ?_
  exact (List.all_eq_true.mp (List.all_eq_true.mp ek_5_1 a ha) b hb)
theorem ek_8 : ((cv_8_1).all fun a => (cv_8_2).all fun b => ck3 false 97 211 [a, b]) = true := by
  refine List.all_eq_true.mpr fun a ha => ?_
  refine List.all_eq_true.mpr fun b hb => ?_
  rcases List.mem_append.mp ha with ha | ha
  · exact (List.all_eq_true.mp (List.all_eq_true.mp ek_8_1 a ha) b hb)
  · rcases List.mem_append.mp ha with ha | ha
    · exact (List.all_eq_true.mp (List.all_eq_true.mp ek_8_2 a ha) b hb)
    · exact (List.all_eq_true.mp (List.all_eq_true.mp ek_8_3 a ha) b hb)
theorem ek_9 : ((cv_9_1).all fun a => (cv_9_2).all fun b => ck3 false 98 214 [a, b]) = true := by
  refine List.all_eq_true.mpr fun a ha => ?_
  refine List.all_eq_true.mpr fun b hb => ?_
  rcases List.mem_append.mp ha with ha | ha
  · exact (List.all_eq_true.mp (List.all_eq_true.mp ek_9_1 a ha) b hb)
  · rcases List.mem_append.mp ha with ha | ha
    · exact (List.all_eq_true.mp (List.all_eq_true.mp ek_9_2 a ha) b hb)
    · rcases List.mem_append.mp ha with ha | ha
      · exact (List.all_eq_true.mp (List.all_eq_true.mp ek_9_3 a ha) b hb)
      · rcases List.mem_append.mp ha with ha | ha
        · exact (List.all_eq_true.mp (List.all_eq_true.mp ek_9_4 a ha) b hb)
        · exact (List.all_eq_true.mp (List.all_eq_true.mp ek_9_5 a ha) b hb)
theorem ek_39 : ((cv_39_1).all fun a => (cv_39_2).all fun b => (cv_39_3).all fun c => ck3 false 128 278 [a, b, c]) = true := by
  refine List.all_eq_true.mpr fun a ha => ?_
  refine List.all_eq_true.mpr fun b hb => ?_
  refine List.all_eq_true.mpr fun c hc => ?_
  rcases List.mem_append.mp ha with ha | ha
  · exact (List.all_eq_true.mp (List.all_eq_true.mp (List.all_eq_true.mp ek_39_1 a ha) b hb) c hc)
  · rcases List.mem_append.mp ha with ha | ha
    · exact (List.all_eq_true.mp (List.all_eq_true.mp (List.all_eq_true.mp ek_39_2 a ha) b hb) c hc)
    · rcases List.mem_append.mp ha with ha | ha
      · exact (List.all_eq_true.mp (List.all_eq_true.mp (List.all_eq_true.mp ek_39_3 a ha) b hb) c hc)
      · exact (List.all_eq_true.mp (List.all_eq_true.mp (List.all_eq_true.mp ek_39_4 a ha) b hb) c hc)
