noncomputable def mx_sl (l : List (Nat × Value)) (t : mx_A) : mx_A := List.rec (motive := fun _ => mx_A) t (fun q _ r => mx_set 13 r q.1 q.2) l
noncomputable def mx_tab {α : Type} (n : Nat) : (Nat → α) → mx_T α n := Nat.rec (motive := fun n => (Nat → α) → mx_T α n) (fun g => g 0) (fun n ih g => ((ih (fun i => g (2 * i)), ih (fun i => g (2 * i + 1))) : mx_T α n × mx_T α n)) n
theorem mx_get_tab {α : Type} : ∀ (n : Nat) (g : Nat → α) (i : Nat), i < 2 ^ n → mx_get n (mx_tab n g) i = g i
  | 0, g, i, hi => by
    have h0 : i = 0 := by simp at hi; omega
    rw [h0]; rfl
  | n + 1, g, i, hi => by
    have hp : 2 ^ (n + 1) = 2 * 2 ^ n := by rw [Nat.pow_succ]; omega
    have h1 := mx_get_tab n (fun i => g (2 * i)) (Nat.div i 2) (by show i / 2 < _; omega)
    have h2 := mx_get_tab n (fun i => g (2 * i + 1)) (Nat.div i 2) (by show i / 2 < _; omega)
    show (bif Nat.beq (Nat.mod i 2) 0 then mx_get n (mx_tab n (fun i => g (2 * i))) (Nat.div i 2) else mx_get n (mx_tab n (fun i => g (2 * i + 1))) (Nat.div i 2)) = g i
    rw [h1, h2]
    rcases (show i % 2 = 0 ∨ i % 2 = 1 by omega) with e | e
    · rw [show Nat.beq (Nat.mod i 2) 0 = true by show Nat.beq (i % 2) 0 = true; rw [e]; rfl]
      show g (2 * (i / 2)) = g i
      congr 1; omega
    · rw [show Nat.beq (Nat.mod i 2) 0 = false by show Nat.beq (i % 2) 0 = false; rw [e]; rfl]
      show g (2 * (i / 2) + 1) = g i
      congr 1; omega
theorem gs_eq {T : mx_A} {i : Nat} {v : Value} (hi : i < 8192) : mx_get 13 (mx_set 13 T i v) i = v := by
  rw [mx_get_set v 13 T i i hi hi, if_pos rfl]
theorem gs_ne {T : mx_A} {i j : Nat} {v : Value} (hi : i < 8192) (hj : j < 8192) (hn : ¬ j = i) : mx_get 13 (mx_set 13 T i v) j = mx_get 13 T j := by
  rw [mx_get_set v 13 T i j hi hj, if_neg hn]
noncomputable def nfv : Value → Bool
  | .float _ => false
  | .double _ => false
  | _ => true
theorem nfv_ok {tau : Nat → Int64} {v : Value} (h : nfv v = true) : sg tau v = v := by
  cases v <;> first | rfl | cases h
noncomputable def nfT (n : Nat) : mx_T Value n → Bool := Nat.rec (motive := fun n => mx_T Value n → Bool) (fun t => nfv t) (fun n ih (t : mx_T Value n × mx_T Value n) => ih t.1 && ih t.2) n
theorem nfT_ok : ∀ (n : Nat) (t : mx_T Value n) (i : Nat), nfT n t = true → nfv (mx_get n t i) = true
  | 0, _, _, h => h
  | n + 1, t, i, h => by
    obtain ⟨h1, h2⟩ := mx_and (show (nfT n (Prod.fst (α := mx_T Value n) (β := mx_T Value n) t) && nfT n (Prod.snd (α := mx_T Value n) (β := mx_T Value n) t)) = true from h)
    have k1 := nfT_ok n _ (Nat.div i 2) h1
    have k2 := nfT_ok n _ (Nat.div i 2) h2
    show nfv (bif Nat.beq (Nat.mod i 2) 0 then mx_get n (Prod.fst (α := mx_T Value n) (β := mx_T Value n) t) (Nat.div i 2) else mx_get n (Prod.snd (α := mx_T Value n) (β := mx_T Value n) t) (Nat.div i 2)) = true
    cases Nat.beq (Nat.mod i 2) 0
    · exact k2
    · exact k1
noncomputable def nfC : mx_C → Bool
  | .inl q => q.2.all nfv
  | .inr q => nfT 13 q.2.2
theorem nf_pe {tau : Nat → Int64} {c : mx_C} (h : nfC c = true) : mx_pe (sgC tau c) c := by
  cases c with
  | inl q =>
    obtain ⟨ci, fs⟩ := q
    refine Or.inl ?_
    show (Sum.inl (ci, fs.map (sg tau)) : mx_C) = Sum.inl (ci, fs)
    have e : fs.map (sg tau) = fs := by
      have h : fs.all nfv = true := h
      induction fs with
      | nil => rfl
      | cons v fs ih =>
        obtain ⟨h1, h2⟩ := mx_and (show (nfv v && fs.all nfv) = true from h)
        rw [List.map_cons, nfv_ok h1, ih h2 h2]
    rw [e]
  | inr q =>
    obtain ⟨ty, n, t⟩ := q
    exact Or.inr ⟨ty, n, _, _, rfl, rfl, fun j _ => by rw [mx_get_map, nfv_ok (nfT_ok 13 t j h)]⟩
/-- numbers that aren't known: 8 .. 471 -/
noncomputable def tS (val : Nat → Int64) (t : Nat) : Int64 := if 8 ≤ t ∧ t < 472 then val (t - 8) else mx_tau (fun _ => 0) t
set_option maxRecDepth 100000 in
theorem iv_no : ∀ t, t < 472 → 8 ≤ t → ¬ (mx_iv t).1 ≤ (mx_iv t).2 := by decide +kernel
theorem tS_in (val : Nat → Int64) (t : Nat) (h : (mx_iv t).1 ≤ (mx_iv t).2) : (mx_iv t).1 ≤ (tS val t).toInt ∧ (tS val t).toInt ≤ (mx_iv t).2 := by
  unfold tS
  by_cases ht : 8 ≤ t ∧ t < 472
  · exact absurd h (iv_no t ht.2 ht.1)
  · rw [if_neg ht]
    exact mx_tau_in _ t h
theorem sg_f {val : Nat → Int64} {t : UInt32} {i : Nat} (ht : t.toNat = 8 + i) (hi : i < 464) : sg (tS val) (.float t) = .int (val i).toInt32 := by
  show Value.int (mx_fl (tS val) t.toNat) = _
  unfold mx_fl
  rw [ht, if_pos (by omega)]
  unfold tS
  rw [if_pos ⟨by omega, by omega⟩, show 8 + i - 8 = i by omega]
theorem i32_64 (x : Int32) : x.toInt64.toInt32 = x := by simp
def al (P : Nat × mx_C → Prop) (p : List (Nat × mx_C)) : Prop := List.rec (motive := fun _ => Prop) True (fun q _ r => P q ∧ r) p
theorem al_mem {P : Nat × mx_C → Prop} : ∀ {p : List (Nat × mx_C)}, al P p → ∀ q ∈ p, P q
  | [], _, q, hq => by cases hq
  | q0 :: p, h, q, hq => by
    rcases List.mem_cons.mp hq with rfl | hq
    · exact h.1
    · exact al_mem (p := p) h.2 q hq
section YTS
variable {l : Launch} {D : va_G} {b0 : Nat} {ad : Nat → Nat} {Hb : Heap} {tau : Nat → Int64} {h : mx_H} {V V2 : Nat → mx_C} {n s d mi : Nat} {as : List Value} {p p2 : List (Nat × mx_C)} {v : Option Value}
/-- a closed run over some cells: what the heap is behind it -/
theorem YT (val : Nat → Int64) (V2 : Nat → mx_C) {as2 : List Value} {v2 : Option Value} (hk : rck d mi as n s p v p2 = true) (ha : as.map (sg (tS val)) = as2) (hv : v.map (sg (tS val)) = v2) (hY : YH n s V h) (hp : al (fun q => (Nat.blt q.1 n && mx_nj q.2) = true ∧ mx_pe (V q.1) (sgC (tS val) q.2)) p) (hp2 : al (fun q => mx_pe (sgC (tS val) q.2) (V2 q.1)) p2) (hr : ∀ k, kin p2 k = false → V2 k = V k) :
    ∃ h2, mx_Ca (tB l D b0 ad Hb tau) d mi as2 h (v2, h2) ∧ YH n s V2 h2 := by
  subst ha
  subst hv
  obtain ⟨h2, hca, hY2⟩ := YH.tr (l := l) (D := D) (b0 := b0) (ad := ad) (Hb := Hb) (tau := tau) (tS_in val) hk hY (fun q hq => by
    obtain ⟨h1, h2⟩ := al_mem hp q hq
    obtain ⟨h3, h4⟩ := mx_and h1
    exact ⟨mx_blt h3, h4, h2⟩)
  refine ⟨h2, hca, hY2.mono (fun k hk => ?_)⟩
  cases hb : kin p2 k with
  | true =>
    obtain ⟨q, hq, hqk, e⟩ := ovl_in (tau2 := tS val) (V := V) hb
    rw [e]
    have := al_mem hp2 q hq
    rw [hqk] at this
    exact this
  | false =>
    rw [ovl_no hb, hr k hb]
    exact Or.inl rfl
/-- cells that are told wholly, and stay -/
theorem YT0 {as2 : List Value} {v2 : Option Value} (hk : rck d mi as n s p v p = true) (ha : as.map (sg (tS (fun _ => 0))) = as2) (hv : v.map (sg (tS (fun _ => 0))) = v2) (hY : YH n s V h) (hp : al (fun q => (Nat.blt q.1 n && (mx_nj q.2 && nfC q.2)) = true ∧ V q.1 = q.2) p) :
    ∃ h2, mx_Ca (tB l D b0 ad Hb tau) d mi as2 h (v2, h2) ∧ YH n s V h2 := by
  have hm := al_mem hp
  have h1 : ∀ q ∈ p, (Nat.blt q.1 n && mx_nj q.2) = true ∧ mx_pe (V q.1) (sgC (tS (fun _ => 0)) q.2) := fun q hq => by
    obtain ⟨a1, a2⟩ := hm q hq
    obtain ⟨a1, a3⟩ := mx_and a1
    obtain ⟨a3, a4⟩ := mx_and a3
    exact ⟨by rw [a1, a3]; rfl, by rw [a2]; exact (nf_pe a4).symm⟩
  have al_of : ∀ {P : Nat × mx_C → Prop} {p : List (Nat × mx_C)}, (∀ q ∈ p, P q) → al P p := by
    intro P p
    induction p with
    | nil => intro _; exact True.intro
    | cons q p ih => intro h; exact ⟨h q List.mem_cons_self, ih (fun q hq => h q (List.mem_cons_of_mem _ hq))⟩
  exact YT (fun _ => 0) V hk ha hv hY (al_of h1) (al_of (fun q hq => (h1 q hq).2.symm)) (fun _ _ => rfl)
end YTS
def fr (l : List Nat) (V V2 : Nat → mx_C) : Prop := ∀ k, (l.all fun a => !(Nat.beq k a)) = true → V2 k = V k
theorem pe_of {tau : Nat → Int64} {W c : mx_C} (e : W = c) (hn : nfC c = true) : mx_pe W (sgC tau c) := by
  rw [e]; exact (nf_pe hn).symm
theorem pe_to {tau : Nat → Int64} {W c : mx_C} (e : W = c) (hn : nfC c = true) : mx_pe (sgC tau c) W := by
  rw [e]; exact nf_pe hn
theorem pe_eql {W c c2 : mx_C} (e : W = c) (h : mx_pe c c2) : mx_pe W c2 := by
  rw [e]; exact h
theorem pe_eq {W c c2 : mx_C} (e : c2 = W) (h : mx_pe c c2) : mx_pe c W := by
  rw [← e]; exact h
theorem fr.rfl' {l : List Nat} {V : Nat → mx_C} : fr l V V := fun _ _ => rfl
theorem fr.up {l : List Nat} {V V2 : Nat → mx_C} {a : Nat} {c : mx_C} (h : fr l V V2) (ha : (l.any fun b => Nat.beq a b) = true) : fr l V (upV V2 a c) := by
  intro k hk
  obtain ⟨b, hb, hab⟩ := List.any_eq_true.mp ha
  have hab : a = b := Nat.eq_of_beq_eq_true hab
  have h1 := List.all_eq_true.mp hk b hb
  rw [← hab] at h1
  show (bif Nat.beq k a then c else V2 k) = V k
  rw [Bool.not_eq_true'] at h1
  rw [h1]
  exact h k hk
theorem fr.trans {l : List Nat} {V V2 V3 : Nat → mx_C} (h : fr l V V2) (h2 : fr l V2 V3) : fr l V V3 := fun k hk => (h2 k hk).trans (h k hk)
theorem fr.mono {l l2 : List Nat} {V V2 : Nat → mx_C} (h : fr l V V2) (hs : (l.all fun a => l2.any fun b => Nat.beq a b) = true) : fr l2 V V2 := by
  intro k hk
  refine h k (List.all_eq_true.mpr fun a ha => ?_)
  obtain ⟨b, hb, hab⟩ := List.any_eq_true.mp (List.all_eq_true.mp hs a ha)
  have hab : a = b := Nat.eq_of_beq_eq_true hab
  rw [hab]
  exact List.all_eq_true.mp hk b hb
theorem bl {a n : Nat} (hn : 83 ≤ n) (ha : Nat.blt a 83 = true) : Nat.blt a n = true := Nat.ble_eq.mpr (by have := mx_blt ha; omega)
noncomputable def zc_0 : mx_C := .inr (.int, 0, mx_rep (.int 0) 13)
noncomputable def zc_1 : mx_C := .inl (11, [.ref 2, .int 0, .int 0, .int (-1), .ref 3, .ref 7, .ref 12, .ref 20, .ref 25, .ref 32, .ref 34, .ref 35, .ref 36, .ref 38, .ref 40, .ref 42, .ref 43])
noncomputable def zc_2 : mx_C := .inr (.byte, 900, mx_rep (.int 0) 13)
noncomputable def zc_3 : mx_C := .inl (7, [.ref 4, .int 0, .int 0, .int 0, .int 3, .int 0, .ref 5, .int 0, .ref 0, .ref 0, .int 0, .ref 6, .int 0, .int 0, .int 0, .int (-1)])
noncomputable def zc_4 : mx_C := .inr (.byte, 0, mx_rep (.int 0) 13)
noncomputable def zc_5 : mx_C := .inr (.int, 900, mx_rep (.int 0) 13)
noncomputable def zc_6 : mx_C := .inr (.int, 19, mx_rep (.int 0) 13)
noncomputable def zc_7 : mx_C := .inl (0, [.ref 8, .ref 9, .ref 10, .ref 11, .int 1, .int 1])
noncomputable def zc_8 : mx_C := .inr (.int, 361, mx_sl [(0, .int 1), (1, .int 1), (2, .int 1), (3, .int 1), (4, .int 1), (5, .int 1), (6, .int 1), (7, .int 1), (8, .int 1), (9, .int 1), (10, .int 1), (11, .int 1), (12, .int 1), (13, .int 1), (14, .int 1), (15, .int 1), (16, .int 1), (17, .int 1), (18, .int 1), (20, .int 1), (21, .int 1), (22, .int 1), (23, .int 1), (24, .int 1), (25, .int 1), (26, .int 1), (27, .int 1), (28, .int 1), (29, .int 1), (30, .int 1), (31, .int 1), (32, .int 1), (33, .int 1), (34, .int 1), (35, .int 1), (36, .int 1), (37, .int 1), (39, .int 1), (40, .int 2), (41, .int 2), (42, .int 2), (43, .int 2), (44, .int 2), (45, .int 2), (46, .int 2), (47, .int 2), (48, .int 2), (49, .int 2), (50, .int 2), (51, .int 2), (52, .int 2), (53, .int 2), (54, .int 2), (55, .int 2), (56, .int 2), (58, .int 1), (59, .int 2), (60, .int 3), (61, .int 3), (62, .int 3), (63, .int 3), (64, .int 3), (65, .int 3), (66, .int 3), (67, .int 3), (68, .int 3), (69, .int 3), (70, .int 3), (71, .int 3), (72, .int 3), (73, .int 3), (74, .int 3), (75, .int 3), (77, .int 1), (78, .int 3), (79, .int 4), (80, .int 5), (81, .int 5), (82, .int 5), (83, .int 5), (84, .int 5), (85, .int 5), (86, .int 5), (87, .int 5), (88, .int 5), (89, .int 5), (90, .int 5), (91, .int 5), (92, .int 5), (93, .int 5), (94, .int 5), (96, .int 1), (97, .int 3), (98, .int 5), (99, .int 6), (100, .int 7), (101, .int 7), (102, .int 7), (103, .int 7), (104, .int 7), (105, .int 7), (106, .int 7), (107, .int 7), (108, .int 7), (109, .int 7), (110, .int 7), (111, .int 7), (112, .int 7), (113, .int 7), (115, .int 1), (116, .int 4), (117, .int 7), (118, .int 9), (119, .int 10), (120, .int 11), (121, .int 11), (122, .int 11), (123, .int 11), (124, .int 11), (125, .int 11), (126, .int 11), (127, .int 11), (128, .int 11), (129, .int 11), (130, .int 11), (131, .int 11), (132, .int 11), (134, .int 1), (135, .int 4), (136, .int 8), (137, .int 11), (138, .int 13), (139, .int 14), (140, .int 15), (141, .int 15), (142, .int 15), (143, .int 15), (144, .int 15), (145, .int 15), (146, .int 15), (147, .int 15), (148, .int 15), (149, .int 15), (150, .int 15), (151, .int 15), (153, .int 1), (154, .int 5), (155, .int 10), (156, .int 15), (157, .int 18), (158, .int 20), (159, .int 21), (160, .int 22), (161, .int 22), (162, .int 22), (163, .int 22), (164, .int 22), (165, .int 22), (166, .int 22), (167, .int 22), (168, .int 22), (169, .int 22), (170, .int 22), (172, .int 1), (173, .int 5), (174, .int 12), (175, .int 18), (176, .int 23), (177, .int 26), (178, .int 28), (179, .int 29), (180, .int 30), (181, .int 30), (182, .int 30), (183, .int 30), (184, .int 30), (185, .int 30), (186, .int 30), (187, .int 30), (188, .int 30), (189, .int 30), (191, .int 1), (192, .int 6), (193, .int 14), (194, .int 23), (195, .int 30), (196, .int 35), (197, .int 38), (198, .int 40), (199, .int 41), (200, .int 42), (201, .int 42), (202, .int 42), (203, .int 42), (204, .int 42), (205, .int 42), (206, .int 42), (207, .int 42), (208, .int 42), (210, .int 1), (211, .int 6), (212, .int 16), (213, .int 27), (214, .int 37), (215, .int 44), (216, .int 49), (217, .int 52), (218, .int 54), (219, .int 55), (220, .int 56), (221, .int 56), (222, .int 56), (223, .int 56), (224, .int 56), (225, .int 56), (226, .int 56), (227, .int 56), (229, .int 1), (230, .int 7), (231, .int 19), (232, .int 34), (233, .int 47), (234, .int 58), (235, .int 65), (236, .int 70), (237, .int 73), (238, .int 75), (239, .int 76), (240, .int 77), (241, .int 77), (242, .int 77), (243, .int 77), (244, .int 77), (245, .int 77), (246, .int 77), (248, .int 1), (249, .int 7), (250, .int 21), (251, .int 39), (252, .int 57), (253, .int 71), (254, .int 82), (255, .int 89), (256, .int 94), (257, .int 97), (258, .int 99), (259, .int 100), (260, .int 101), (261, .int 101), (262, .int 101), (263, .int 101), (264, .int 101), (265, .int 101), (267, .int 1), (268, .int 8), (269, .int 24), (270, .int 47), (271, .int 70), (272, .int 90), (273, .int 105), (274, .int 116), (275, .int 123), (276, .int 128), (277, .int 131), (278, .int 133), (279, .int 134), (280, .int 135), (281, .int 135), (282, .int 135), (283, .int 135), (284, .int 135), (286, .int 1), (287, .int 8), (288, .int 27), (289, .int 54), (290, .int 84), (291, .int 110), (292, .int 131), (293, .int 146), (294, .int 157), (295, .int 164), (296, .int 169), (297, .int 172), (298, .int 174), (299, .int 175), (300, .int 176), (301, .int 176), (302, .int 176), (303, .int 176), (305, .int 1), (306, .int 9), (307, .int 30), (308, .int 64), (309, .int 101), (310, .int 136), (311, .int 164), (312, .int 186), (313, .int 201), (314, .int 212), (315, .int 219), (316, .int 224), (317, .int 227), (318, .int 229), (319, .int 230), (320, .int 231), (321, .int 231), (322, .int 231), (324, .int 1), (325, .int 9), (326, .int 33), (327, .int 72), (328, .int 119), (329, .int 163), (330, .int 201), (331, .int 230), (332, .int 252), (333, .int 267), (334, .int 278), (335, .int 285), (336, .int 290), (337, .int 293), (338, .int 295), (339, .int 296), (340, .int 297), (341, .int 297), (343, .int 1), (344, .int 10), (345, .int 37), (346, .int 84), (347, .int 141), (348, .int 199), (349, .int 248), (350, .int 288), (351, .int 318), (352, .int 340), (353, .int 355), (354, .int 366), (355, .int 373), (356, .int 378), (357, .int 381), (358, .int 383), (359, .int 384), (360, .int 385)] (mx_rep (.int 0) 13))
noncomputable def zc_9 : mx_C := .inr (.byte, 6930, mx_sl [(0, .int 1)] (mx_rep (.int 0) 13))
noncomputable def zc_10 : mx_C := .inr (.byte, 385, mx_sl [(0, .int 1)] (mx_rep (.int 0) 13))
noncomputable def zc_11 : mx_C := .inr (.int, 19, mx_rep (.int 0) 13)
noncomputable def zc_12 : mx_C := .inl (4, [.ref 7, .ref 37, .int 1, .ref 14, .ref 15, .ref 16, .ref 17, .ref 18, .ref 19])
noncomputable def zc_13 : mx_C := .inl (3, [.ref 0, .ref 0, .int 0])
noncomputable def zc_14 : mx_C := .inr (.int, 7315, mx_rep (.int 0) 13)
noncomputable def zc_15 : mx_C := .inr (.int, 3850, mx_rep (.int 0) 13)
noncomputable def zc_16 : mx_C := .inr (.int, 6498, mx_rep (.int 0) 13)
noncomputable def zc_17 : mx_C := .inr (.int, 5, mx_sl [(3, .int 1)] (mx_rep (.int 0) 13))
noncomputable def zc_18 : mx_C := .inr (.int, 64, mx_rep (.int 0) 13)
noncomputable def zc_19 : mx_C := .inr (.int, 19, mx_rep (.int 0) 13)
noncomputable def zc_20 : mx_C := .inl (2, [.ref 7, .ref 12, .ref 21, .ref 22, .ref 23, .ref 24, .int 0, .int 1, .int 0, .int 0, .int 0, .int 0])
noncomputable def zc_21 : mx_C := .inr (.int, 385, mx_rep (.int 0) 13)
noncomputable def zc_22 : mx_C := .inr (.int, 385, mx_rep (.int 0) 13)
noncomputable def zc_23 : mx_C := .inr (.int, 385, mx_rep (.int 0) 13)
noncomputable def zc_24 : mx_C := .inr (.int, 385, mx_rep (.int 0) 13)
noncomputable def zc_25 : mx_C := .inl (8, [.ref 7, .ref 12, .ref 26, .ref 27, .ref 28, .ref 29, .ref 30, .ref 31, .int 0])
noncomputable def zc_26 : mx_C := .inr (.int, 385, mx_rep (.int 0) 13)
noncomputable def zc_27 : mx_C := .inr (.int, 385, mx_rep (.int 0) 13)
noncomputable def zc_28 : mx_C := .inr (.int, 385, mx_rep (.int 0) 13)
noncomputable def zc_29 : mx_C := .inr (.int, 385, mx_rep (.int 0) 13)
noncomputable def zc_30 : mx_C := .inr (.int, 385, mx_rep (.int 0) 13)
noncomputable def zc_31 : mx_C := .inr (.int, 385, mx_rep (.int 0) 13)
noncomputable def zc_32 : mx_C := .inl (9, [.ref 7, .ref 12, .ref 33])
noncomputable def zc_33 : mx_C := .inr (.long, 3850, mx_rep (.long 0) 13)
noncomputable def zc_36 : mx_C := .inl (5, [.ref 37, .int 1, .int 0, .int 0, .int 0, .int 0])
noncomputable def zc_37 : mx_C := .inl (3, [.ref 0, .ref 0, .int 0])
noncomputable def zc_38 : mx_C := .inl (5, [.ref 39, .int 1, .int 0, .int 0, .int 0, .int 0])
noncomputable def zc_39 : mx_C := .inl (3, [.ref 0, .ref 0, .int 0])
noncomputable def zc_40 : mx_C := .inl (6, [.ref 41, .int 0])
noncomputable def zc_41 : mx_C := .inr (.int, 30, mx_rep (.int 0) 13)
noncomputable def zc_42 : mx_C := .inr (.int, 19, mx_rep (.int 0) 13)
noncomputable def zc_43 : mx_C := .inr (.int, 190, mx_rep (.int 0) 13)
noncomputable def zc_44 : mx_C := .inl (10, [.ref 45, .int 0, .int 0, .int 1])
noncomputable def zc_45 : mx_C := .inr (.long, 40, mx_rep (.long 0) 13)
noncomputable def zc_46 : mx_C := .inl (10, [.ref 47, .int 0, .int 0, .int 1])
noncomputable def zc_47 : mx_C := .inr (.long, 40, mx_rep (.long 0) 13)
noncomputable def zc_48 : mx_C := .inl (10, [.ref 49, .int 0, .int 0, .int 1])
noncomputable def zc_49 : mx_C := .inr (.long, 40, mx_rep (.long 0) 13)
noncomputable def zc_50 : mx_C := .inl (10, [.ref 51, .int 0, .int 0, .int 1])
noncomputable def zc_51 : mx_C := .inr (.long, 40, mx_rep (.long 0) 13)
noncomputable def zc_52 : mx_C := .inl (5, [.ref 53, .int 1, .int 0, .int 0, .int 0, .int 0])
noncomputable def zc_53 : mx_C := .inl (3, [.ref 0, .ref 0, .int 0])
noncomputable def zc_54 : mx_C := .inl (5, [.ref 55, .int 1, .int 0, .int 0, .int 0, .int 0])
noncomputable def zc_55 : mx_C := .inl (3, [.ref 0, .ref 0, .int 0])
noncomputable def zc_56 : mx_C := .inl (12, [.int 0, .ref 57, .ref 58, .ref 59, .ref 60, .int 0, .int 0, .int 0, .int 0, .int 0, .int 0, .int 0, .int 0, .int 0, .int (-1), .ref 61, .ref 62, .ref 63, .int 1, .ref 64, .ref 65, .ref 66, .int 0, .int 0, .ref 67, .ref 68, .ref 69, .ref 70, .ref 71, .ref 72, .int 0, .int 0, .ref 73, .ref 74, .ref 75, .ref 76, .ref 77, .ref 78, .ref 79, .ref 80, .ref 81, .ref 82])
noncomputable def zc_57 : mx_C := .inr (.int, 2886, mx_sl [(1, .int 1)] (mx_rep (.int 0) 13))
noncomputable def zc_58 : mx_C := .inr (.boolean, 2, mx_rep (.int 0) 13)
noncomputable def zc_59 : mx_C := .inr (.int, 900, mx_rep (.int 0) 13)
noncomputable def zc_60 : mx_C := .inr (.int, 962, mx_rep (.int 0) 13)
noncomputable def zc_61 : mx_C := .inr (.int, 6930, mx_sl [(0, .int 1)] (mx_rep (.int 0) 13))
noncomputable def zc_62 : mx_C := .inr (.int, 20, mx_rep (.int 0) 13)
noncomputable def zc_63 : mx_C := .inr (.int, 18, mx_sl [(0, .int 1)] (mx_rep (.int 0) 13))
noncomputable def zc_64 : mx_C := .inr (.int, 900, mx_rep (.int 0) 13)
noncomputable def zc_65 : mx_C := .inr (.int, 5, mx_rep (.int 0) 13)
noncomputable def zc_66 : mx_C := .inr (.int, 3, mx_rep (.int 0) 13)
noncomputable def zc_67 : mx_C := .inr (.int, 385, mx_rep (.int 0) 13)
noncomputable def zc_68 : mx_C := .inr (.int, 385, mx_rep (.int 0) 13)
noncomputable def zc_69 : mx_C := .inr (.int, 386, mx_rep (.int 0) 13)
noncomputable def zc_70 : mx_C := .inr (.boolean, 385, mx_rep (.int 0) 13)
noncomputable def zc_71 : mx_C := .inr (.boolean, 385, mx_rep (.int 0) 13)
noncomputable def zc_72 : mx_C := .inr (.boolean, 385, mx_rep (.int 0) 13)
noncomputable def zc_73 : mx_C := .inr (.int, 7315, mx_rep (.int 0) 13)
noncomputable def zc_74 : mx_C := .inr (.int, 385, mx_rep (.int 0) 13)
noncomputable def zc_75 : mx_C := .inr (.int, 385, mx_rep (.int 0) 13)
noncomputable def zc_76 : mx_C := .inr (.long, 385, mx_rep (.long 0) 13)
noncomputable def zc_77 : mx_C := .inr (.long, 385, mx_rep (.long 0) 13)
noncomputable def zc_78 : mx_C := .inr (.long, 3465, mx_rep (.long 0) 13)
noncomputable def zc_79 : mx_C := .inr (.int, 19, mx_rep (.int 0) 13)
noncomputable def zc_80 : mx_C := .inr (.int, 4, mx_sl [(0, .int (-1)), (1, .int (-1)), (2, .int (-1)), (3, .int (-1))] (mx_rep (.int 0) 13))
noncomputable def zc_81 : mx_C := .inr (.int, 4, mx_rep (.int 0) 13)
noncomputable def zc_82 : mx_C := .inr (.long, 160, mx_rep (.long 0) 13)
noncomputable def LB : List (Nat × mx_C) := [(0, zc_0), (1, zc_1), (2, zc_2), (3, zc_3), (4, zc_4), (5, zc_5), (6, zc_6), (7, zc_7), (8, zc_8), (9, zc_9), (10, zc_10), (11, zc_11), (12, zc_12), (13, zc_13), (14, zc_14), (15, zc_15), (16, zc_16), (17, zc_17), (18, zc_18), (19, zc_19), (20, zc_20), (21, zc_21), (22, zc_22), (23, zc_23), (24, zc_24), (25, zc_25), (26, zc_26), (27, zc_27), (28, zc_28), (29, zc_29), (30, zc_30), (31, zc_31), (32, zc_32), (33, zc_33), (36, zc_36), (37, zc_37), (38, zc_38), (39, zc_39), (40, zc_40), (41, zc_41), (42, zc_42), (43, zc_43), (44, zc_44), (45, zc_45), (46, zc_46), (47, zc_47), (48, zc_48), (49, zc_49), (50, zc_50), (51, zc_51), (52, zc_52), (53, zc_53), (54, zc_54), (55, zc_55), (56, zc_56), (57, zc_57), (58, zc_58), (59, zc_59), (60, zc_60), (61, zc_61), (62, zc_62), (63, zc_63), (64, zc_64), (65, zc_65), (66, zc_66), (67, zc_67), (68, zc_68), (69, zc_69), (70, zc_70), (71, zc_71), (72, zc_72), (73, zc_73), (74, zc_74), (75, zc_75), (76, zc_76), (77, zc_77), (78, zc_78), (79, zc_79), (80, zc_80), (81, zc_81), (82, zc_82)]
set_option maxRecDepth 1000000 in
theorem h4b : (LB.all fun q => cq (mx_get 9 h_4.2.2 q.1) q.2) = true ∧ h_4.2.1 = 62985 := by decide +kernel

