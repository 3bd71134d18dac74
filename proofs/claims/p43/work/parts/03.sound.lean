/-! what the small machine's cells are on the library's heap; the judgement that its instructions keep -/
/-- classes, their numbers and slots; how many constants, where new cells begin, where the constants lie, the heap at the start -/
abbrev mx_E : Type := List vw_C × va_G × Nat × Nat × (Nat → Nat) × Heap × (Nat → Int64)
def mx_rho (E : mx_E) (k : Nat) : Nat := if k < E.2.2.1 ∨ 4096 ≤ k then E.2.2.2.2.1 k else E.2.2.2.1 + (k - E.2.2.1)
noncomputable def mx_v (E : mx_E) : Value → Value
  | .ref k => .ref (mx_rho E k)
  | .float t => .int (mx_fl E.2.2.2.2.2.2 t.toNat)
  | .double t => .long (E.2.2.2.2.2.2 t.toNat)
  | v => v
/-- an array's cell -/
def mx_okA (E : mx_E) (U : State) (H : Heap) (a : Nat) (ty : FieldType) (n : Nat) (t : mx_A) : Prop := ∃ c : Cell, H[a]? = some c ∧ U.isArrayOf c ty ∧ c.vm ≠ .unknown ∧ (n ≤ c.slots.size ∧ c.slots.size.toInt32 = Int32.ofNat n) ∧ n ≤ 8192 ∧ (∀ j, j < n → c.slots[j]? = some (mx_v E (mx_get 13 t j))) ∧ (∀ C, ty = .object C → va_RA U c.cls ty)
/-- a cell; an array of floats stands for a cell of which nothing is known but that it is as at the start -/
def mx_ok (E : mx_E) (U : State) (H : Heap) (a : Nat) (c : mx_C) : Prop := match c with
  | .inl (ci, fs) => ∃ r : vw_C, E.1[ci]? = some r ∧ fs.length = r.2.2 ∧ t_OB a (E.2.1.1 ci) r.2.2 (E.2.1.2 ci) H (vp_V (fs.map (mx_v E)))
  | .inr (ty, n, t) => (ty = .float ∧ H[a]? = E.2.2.2.2.2.1[a]?) ∨ (¬ ty = .float ∧ mx_okA E U H a ty n t)
def mx_Rp (E : mx_E) (U : State) (h : mx_H) (H : Heap) : Prop :=
  E.2.2.1 ≤ h.1 ∧ h.1 ≤ 4096 ∧ H.size = E.2.2.2.1 + (h.1 - E.2.2.1) ∧ (∀ q, q < E.2.2.2.1 → H[q]? = E.2.2.2.2.2.1[q]?) ∧ (∀ k, k < E.2.2.1 → E.2.2.2.2.1 k < E.2.2.2.1) ∧ ∀ k, k < h.1 → mx_ok E U H (mx_rho E k) (mx_get 12 h.2.2 k)
theorem mx_ok.kept {E : mx_E} {U : State} {H H1 : Heap} {a : Nat} {c : mx_C} (h : mx_ok E U H a c) (hq : H1[a]? = H[a]?) : mx_ok E U H1 a c := by
  cases c with
  | inl o =>
    obtain ⟨r, h1, h2, h3⟩ := h
    exact ⟨r, h1, h2, h3.kept hq⟩
  | inr o =>
    rcases h with ⟨hf, h1⟩ | ⟨hf, c, h1, h2⟩
    · exact Or.inl ⟨hf, hq.trans h1⟩
    · exact Or.inr ⟨hf, c, hq.trans h1, h2⟩
theorem mx_ok.moved {E : mx_E} {u U : State} {H : Heap} {a : Nat} {c : mx_C} (hvm : u.vm.Alike U.vm) (h : mx_ok E u H a c) : mx_ok E U H a c := by
  cases c with
  | inl o => exact h
  | inr o =>
    rcases h with h | ⟨hf, c, h1, h2, h3, h4, h5, h6, h7⟩
    · exact Or.inl h
    · exact Or.inr ⟨hf, c, h1, State.isArrayOf_alike hvm h2, h3, h4, h5, h6, fun C hC => (h7 C hC).moved hvm⟩
theorem mx_Rp.moved {E : mx_E} {u U : State} {h : mx_H} {H : Heap} (hvm : u.vm.Alike U.vm) (hr : mx_Rp E u h H) : mx_Rp E U h H := by
  obtain ⟨h1, h2, h3, h4, h5, h6⟩ := hr
  exact ⟨h1, h2, h3, h4, h5, fun k hk => (h6 k hk).moved hvm⟩
theorem mx_rho_hi {E : mx_E} {k : Nat} (h : ¬ k < E.2.2.1) (h2 : k < 4096) : mx_rho E k = E.2.2.2.1 + (k - E.2.2.1) := by
  unfold mx_rho; rw [if_neg (by omega)]
theorem mx_rho_lo {E : mx_E} {k : Nat} (h : k < E.2.2.1) : mx_rho E k = E.2.2.2.2.1 k := by
  unfold mx_rho; rw [if_pos (Or.inl h)]
theorem mx_rho_k {E : mx_E} {k : Nat} (h : 4096 ≤ k) : mx_rho E k = E.2.2.2.2.1 k := by
  unfold mx_rho; rw [if_pos (Or.inr h)]
/-- cells apart: a place that isn't a constant's is no other's -/
theorem mx_rho_ne {E : mx_E} {U : State} {h : mx_H} {H : Heap} (hr : mx_Rp E U h H) {a k : Nat} (ha : ¬ a < E.2.2.1) (hal : a < 4096) (hkl : k < 4096) (hk : k ≠ a) : mx_rho E k ≠ mx_rho E a := by
  rw [mx_rho_hi ha hal]
  by_cases hkc : k < E.2.2.1
  · have := hr.2.2.2.2.1 k hkc
    rw [mx_rho_lo hkc]; omega
  · rw [mx_rho_hi hkc hkl]; omega
theorem mx_cell_some {h : mx_H} {a : Nat} {c : mx_C} (e : mx_cell h a = some c) : a < h.1 ∧ mx_get 12 h.2.2 a = c := by
  unfold mx_cell at e
  cases hb : Nat.blt a h.1 with
  | false => rw [hb] at e; cases e
  | true =>
    rw [hb] at e
    exact ⟨by have := Nat.ble_eq.mp (show Nat.ble (a + 1) h.1 = true from hb); omega, Option.some.inj e⟩
theorem mx_Rp.at {E : mx_E} {U : State} {h : mx_H} {H : Heap} {a : Nat} {c : mx_C} (hr : mx_Rp E U h H) (e : mx_cell h a = some c) : mx_ok E U H (mx_rho E a) c := by
  obtain ⟨h1, h2⟩ := mx_cell_some e
  rw [← h2]
  exact hr.2.2.2.2.2 a h1
theorem mx_Rp.arr {E : mx_E} {U : State} {h : mx_H} {H : Heap} {a n : Nat} {ty : FieldType} {t : mx_A} (hr : mx_Rp E U h H) (e : mx_cell h a = some (.inr (ty, n, t))) (hf : ¬ ty = .float) : mx_okA E U H (mx_rho E a) ty n t := by
  rcases hr.at e with h1 | h1
  · exact absurd h1.1 hf
  · exact h1.2
/-- one cell is another -/
theorem mx_Rp.put {E : mx_E} {U : State} {h : mx_H} {H H1 : Heap} {a : Nat} {c : mx_C} (hr : mx_Rp E U h H) (ha : ¬ a < E.2.2.1) (hl : a < h.1) (he : mx_ok E U H1 (mx_rho E a) c) (hz : H1.size = H.size) (hq : ∀ q : Nat, q ≠ mx_rho E a → H1[q]? = H[q]?) : mx_Rp E U (mx_put h a c) H1 := by
  have hle9 := hr.2.1
  have hne : ∀ k, k < h.1 → k ≠ a → mx_rho E k ≠ mx_rho E a := fun k hk9 hk => mx_rho_ne hr ha (by omega) (by omega) hk
  obtain ⟨h1, h2, h3, h4, h5, h6⟩ := hr
  refine ⟨h1, h2, hz.trans h3, fun q hq2 => ?_, h5, fun k hk => ?_⟩
  · rw [hq q (by rw [mx_rho_hi ha (by omega)]; omega)]; exact h4 q hq2
  · have hk2 : k < h.1 := hk
    show mx_ok E U H1 (mx_rho E k) (mx_get 12 (mx_set 12 h.2.2 a c) k)
    rw [mx_get_set c 12 h.2.2 a k (by show a < 4096; omega) (by show k < 4096; omega)]
    by_cases hka : k = a
    · rw [if_pos hka, hka]; exact he
    · rw [if_neg hka]; exact (h6 k hk2).kept (hq _ (hne k hk2 hka))
/-- one cell more -/
theorem mx_Rp.push {E : mx_E} {U : State} {h : mx_H} {H H1 : Heap} {n : Nat} {c : mx_C} (hr : mx_Rp E U h H) (hl : h.1 < 4096) (he : mx_ok E U H1 H.size c) (hz : H1.size = H.size + 1) (hq : ∀ q : Nat, q < H.size → H1[q]? = H[q]?) : mx_Rp E U (mx_push h n c) H1 := by
  obtain ⟨h1, h2, h3, h4, h5, h6⟩ := hr
  have hlt : ∀ k, k < h.1 → mx_rho E k < H.size := by
    intro k hk
    by_cases hkc : k < E.2.2.1
    · have := h5 k hkc
      rw [mx_rho_lo hkc]; omega
    · rw [mx_rho_hi hkc (by omega)]; omega
  refine ⟨by show _ ≤ h.1 + 1; omega, by show h.1 + 1 ≤ _; omega, by show H1.size = _ + (h.1 + 1 - _); omega, fun q hq2 => ?_, h5, fun k hk => ?_⟩
  · rw [hq q (by omega)]; exact h4 q hq2
  · have hk2 : k < h.1 + 1 := hk
    show mx_ok E U H1 (mx_rho E k) (mx_get 12 (mx_set 12 h.2.2 h.1 c) k)
    rw [mx_get_set c 12 h.2.2 h.1 k (by show h.1 < 4096; omega) (by show k < 4096; omega)]
    by_cases hka : k = h.1
    · rw [if_pos hka, hka, mx_rho_hi (by omega) hl, ← h3]; exact he
    · rw [if_neg hka]; exact (h6 k (by omega)).kept (hq _ (hlt k (by omega)))
theorem mx_rho_new {E : mx_E} {U : State} {h : mx_H} {H : Heap} (hr : mx_Rp E U h H) (hl : h.1 < 4096) : mx_rho E h.1 = H.size := by
  rw [mx_rho_hi (by have := hr.1; omega) hl, hr.2.2.1]
/-- locals -/
def mx_ls (E : mx_E) (la : Array Slot) (nL : Nat) (ls : mx_L) : Prop := la.size = nL ∧ lv_wf la ∧ ls.length = nL ∧ ∀ (i : Nat) (v : Value), ls[i]? = some (some v) → la[i]? = some (.val (mx_v E v))
theorem mx_lg_some {ls : mx_L} {i : Nat} {v : Value} (h : mx_lg ls i = some v) : ls[i]? = some (some v) := by
  unfold mx_lg at h
  rw [mx_nth_eq] at h
  split at h
  · rename_i w hw; rw [hw, Option.some.inj h]
  · cases h
theorem mx_v_cat (E : mx_E) (v : Value) : (mx_v E v).category = v.category := by cases v <;> rfl
theorem mx_cl_length (ls : mx_L) (i : Nat) : (mx_cl ls i).length = ls.length := by
  unfold mx_cl
  split
  · rfl
  · split <;> simp [mx_upd_eq]
theorem mx_cl_at {ls : mx_L} {i j : Nat} {v : Value} (h : (mx_cl ls i)[j]? = some (some v)) : ls[j]? = some (some v) ∧ ¬ (j + 1 = i ∧ v.category = 2) := by
  unfold mx_cl at h
  split at h
  · exact ⟨h, by omega⟩
  · rename_i k
    have hcat : ∀ w : Value, ls[k]? = some (some w) → mx_lg ls k = some w := by
      intro w hw; unfold mx_lg; rw [mx_nth_eq, hw]
    split at h
    · rw [mx_upd_eq, List.getElem?_set] at h
      by_cases hkj : k = j
      · rw [if_pos hkj] at h
        split at h <;> cases h
      · rw [if_neg hkj] at h
        exact ⟨h, by omega⟩
    · rw [mx_upd_eq, List.getElem?_set] at h
      by_cases hkj : k = j
      · rw [if_pos hkj] at h
        split at h <;> cases h
      · rw [if_neg hkj] at h
        exact ⟨h, by omega⟩
    · rename_i n1 n2
      refine ⟨h, ?_⟩
      rintro ⟨q1, q2⟩
      have hkj : k = j := by omega
      subst hkj
      have e := hcat v h
      cases v <;> first | exact absurd e (n1 _) | exact absurd e (n2 _) | (simp [Value.category] at q2)
/-- the list of what is held, as the kit has it -/
theorem mx_ls_of {E : mx_E} {la : Array Slot} {nL : Nat} {ls : mx_L} {lv : List (Nat × Value)} (h : lv_has la nL lv) (hlen : ls.length = nL) (hin : ∀ (i : Nat) (v : Value), ls[i]? = some (some v) → (i, mx_v E v) ∈ lv) : mx_ls E la nL ls :=
  ⟨h.1, h.2.1, hlen, fun i v hv => h.2.2 (i, mx_v E v) (hin i v hv)⟩
noncomputable def mx_asc (E : mx_E) (ls : mx_L) : List (Nat × Value) := (List.range ls.length).filterMap fun i => match ls[i]? with
  | some (some v) => some (i, mx_v E v)
  | _ => none
theorem mx_asc_mem {E : mx_E} {ls : mx_L} {i : Nat} {w : Value} : (i, w) ∈ mx_asc E ls ↔ ∃ v, ls[i]? = some (some v) ∧ w = mx_v E v := by
  unfold mx_asc
  rw [List.mem_filterMap]
  constructor
  · rintro ⟨j, hj, e⟩
    split at e
    · rename_i v hv
      have e2 := Option.some.inj e
      have e3 : j = i := congrArg Prod.fst e2
      have e4 : mx_v E v = w := congrArg Prod.snd e2
      exact ⟨v, by rw [← e3]; exact hv, e4.symm⟩
    · cases e
  · rintro ⟨v, hv, rfl⟩
    refine ⟨i, List.mem_range.mpr (List.getElem?_eq_some_iff.mp hv).1, ?_⟩
    rw [hv]
theorem mx_ls.has {E : mx_E} {la : Array Slot} {nL : Nat} {ls : mx_L} (h : mx_ls E la nL ls) : lv_has la nL (mx_asc E ls) := by
  refine ⟨h.1, h.2.1, fun q hq => ?_⟩
  obtain ⟨i, w⟩ := q
  obtain ⟨v, hv, rfl⟩ := mx_asc_mem.mp hq
  exact h.2.2.2 i v hv
theorem mx_st1_ls {E : mx_E} {la : Array Slot} {nL : Nat} {ls : mx_L} {i : Nat} {v : Value} (hl : ls.length = nL)
    (h : lv_has la nL ((i, mx_v E v) :: (mx_asc E ls).filter (fun q => !(q.1 == i) && !(q.1 + 1 == i && q.2.category == 2)))) : mx_ls E la nL (mx_st1 ls i v) := by
  refine mx_ls_of h (by unfold mx_st1; rw [mx_upd_eq, List.length_set, mx_cl_length]; exact hl) fun j w hw => ?_
  unfold mx_st1 at hw
  rw [mx_upd_eq, List.getElem?_set] at hw
  by_cases hij : i = j
  · rw [if_pos hij] at hw
    split at hw
    · cases hw; rw [hij]; exact List.mem_cons_self
    · cases hw
  · rw [if_neg hij] at hw
    obtain ⟨h1, h2⟩ := mx_cl_at hw
    refine List.mem_cons_of_mem _ (List.mem_filter.mpr ⟨mx_asc_mem.mpr ⟨w, h1, rfl⟩, ?_⟩)
    have hji : ¬ j = i := fun z => hij z.symm
    simp only [Bool.and_eq_true, Bool.not_eq_true', beq_eq_false_iff_ne, ne_eq, Bool.and_eq_false_iff, mx_v_cat]
    refine ⟨hji, ?_⟩
    by_cases hc : j + 1 = i
    · exact Or.inr (fun hcat => h2 ⟨hc, hcat⟩)
    · exact Or.inl hc
theorem mx_st2_ls {E : mx_E} {la : Array Slot} {nL : Nat} {ls : mx_L} {i : Nat} {v : Value} (hl : ls.length = nL)
    (h : lv_has la nL ((i, mx_v E v) :: (mx_asc E ls).filter (fun q => !(q.1 == i) && (!(q.1 == i + 1) && !(q.1 + 1 == i && q.2.category == 2))))) : mx_ls E la nL (mx_st2 ls i v) := by
  refine mx_ls_of h (by unfold mx_st2; rw [mx_upd_eq, List.length_set, mx_upd_eq, List.length_set, mx_cl_length]; exact hl) fun j w hw => ?_
  unfold mx_st2 at hw
  rw [mx_upd_eq, List.getElem?_set] at hw
  by_cases hij : i = j
  · rw [if_pos hij] at hw
    split at hw
    · cases hw; rw [hij]; exact List.mem_cons_self
    · cases hw
  · rw [if_neg hij, mx_upd_eq, List.getElem?_set] at hw
    by_cases hij2 : i + 1 = j
    · rw [if_pos hij2] at hw
      split at hw <;> cases hw
    · rw [if_neg hij2] at hw
      obtain ⟨h1, h2⟩ := mx_cl_at hw
      refine List.mem_cons_of_mem _ (List.mem_filter.mpr ⟨mx_asc_mem.mpr ⟨w, h1, rfl⟩, ?_⟩)
      have hji : ¬ j = i := fun z => hij z.symm
      have hji2 : ¬ j = i + 1 := fun z => hij2 z.symm
      simp only [Bool.and_eq_true, Bool.not_eq_true', beq_eq_false_iff_ne, ne_eq, Bool.and_eq_false_iff, mx_v_cat]
      refine ⟨hji, hji2, ?_⟩
      by_cases hc : j + 1 = i
      · exact Or.inr (fun hcat => h2 ⟨hc, hcat⟩)
      · exact Or.inl hc
/-- what a run knows of the tables: the classes; arrays over classes, nest mates' links; static fields that nobody writes -/
abbrev mx_NF : Type := String
abbrev mx_NM : Type := String × Nat × MethodName × String
abbrev mx_Z : Type := String × String × String × Value
abbrev mx_Ev : Type := mx_E × List Cond × List mx_NF × List mx_NM × List mx_Z
/-- String constants: the class and the entry that names one, its text, its number, its bytes; the JDK's own statics that a char's reading asks -/
def sb_0 : List Int32 := [98, 97, 114, 110, 32, 115, 101, 97, 115, 111, 110, 32, 104, 101, 97, 112, 32, 103, 105, 118, 101, 115, 32, 109, 97, 121, 32, 105, 102, 32, 116, 104, 101, 110, 32, 101, 108, 115, 101, 32, 101, 110, 100, 32, 115, 105, 122, 101, 32, 112, 108, 97, 99, 101, 32, 104, 101, 97, 112, 115, 32, 97, 108, 108, 32, 111, 114, 32, 97, 110, 100, 32, 110, 111, 116, 32]
def sb_1 : List Int32 := [59, 58, 43, 45, 42, 40, 41, 91, 93, 61, 60, 62]
def sb_2 : List Int32 := [32, 98, 97, 114, 110, 32, 115, 101, 97, 115, 111, 110, 32, 104, 101, 97, 112, 32, 103, 105, 118, 101, 115, 32, 109, 97, 121, 32, 105, 102, 32, 116, 104, 101, 110, 32, 101, 108, 115, 101, 32, 101, 110, 100, 32, 115, 105, 122, 101, 32, 112, 108, 97, 99, 101, 32, 104, 101, 97, 112, 115, 32, 97, 108, 108, 32, 97, 110, 100, 32, 111, 114, 32, 110, 111, 116, 32]
def sx_0 : String := "barn season heap gives may if then else end size place heaps all or and not "
def sx_1 : String := ";:+-*()[]=<>"
def sx_2 : String := " barn season heap gives may if then else end size place heaps all and or not "
def tSR : List (String × Nat × String × Nat × List Int32) := [("TitheHeap$Reader", 163, sx_0, 4096, sb_0), ("TitheHeap$Reader", 155, sx_1, 4098, sb_1), ("TitheHeapModel", 110, sx_2, 4100, sb_2), ("TitheHeapModel", 148, sx_1, 4102, sb_1)]
def mx_SK (E : mx_E) (U : State) : Prop :=
  (∀ w ∈ tSR, vk_R w.1 w.2.1 w.2.2.1 (E.2.2.2.2.1 w.2.2.2.1) U ∧ va_O "java/lang/String" (E.2.2.2.2.1 w.2.2.2.1) (fun q => E.2.2.2.1 ≤ q) U E.2.2.2.2.2.1 ∧ va_OF "java/lang/String" "coder" "B" (.int 0) (E.2.2.2.2.1 w.2.2.2.1) (fun q => E.2.2.2.1 ≤ q) U E.2.2.2.2.2.1 ∧ va_OF "java/lang/String" "value" "[B" (.ref (E.2.2.2.2.1 (w.2.2.2.1 + 1))) (E.2.2.2.2.1 w.2.2.2.1) (fun q => E.2.2.2.1 ≤ q) U E.2.2.2.2.2.1 ∧ va_T .byte (E.2.2.2.2.1 (w.2.2.2.1 + 1)) w.2.2.2.2.length (fun j => .int (w.2.2.2.2.getD j 0)) (fun q => E.2.2.2.1 ≤ q) U E.2.2.2.2.2.1) ∧
  va_Z "java/lang/String" "COMPACT_STRINGS" "Z" (.int 1) (fun q => E.2.2.2.1 ≤ q) U E.2.2.2.2.2.1 ∧
  ∃ v : Value, (v = .null ∨ v = .ref (E.2.2.2.2.1 4104)) ∧ va_Z "jdk/internal/util/Preconditions" "SIOOBE_FORMATTER" "Ljava/util/function/BiFunction;" v (fun q => E.2.2.2.1 ≤ q) U E.2.2.2.2.2.1
theorem mx_SK.moved {E : mx_E} {s U : State} (hA : s.vm.Alike U.vm) (hR : ∀ w ∈ tSR, vk_R w.1 w.2.1 w.2.2.1 (E.2.2.2.2.1 w.2.2.2.1) U) (h : mx_SK E s) : mx_SK E U := by
  obtain ⟨h1, h2, v, h3, h4⟩ := h
  exact ⟨fun w hw => ⟨hR w hw, va_O.moved hA (h1 w hw).2.1, va_OF.moved hA (h1 w hw).2.2.1, va_OF.moved hA (h1 w hw).2.2.2.1, va_T.moved hA (h1 w hw).2.2.2.2⟩, va_Z.moved hA h2, v, h3, va_Z.moved hA h4⟩
def mx_KK (V : mx_Ev) (U : State) : Prop :=
  va_K V.1.2.1 V.1.1 [] U ∧ (∀ C ∈ V.2.2.1, va_AO C U) ∧ (∀ w ∈ V.2.2.2.1, va_Nw (.methodLinkNest w.1 w.2.1 w.2.2.1 w.2.2.2) U) ∧
  (∀ t, (mx_iv t).1 ≤ (mx_iv t).2 → (mx_iv t).1 ≤ (V.1.2.2.2.2.2.2 t).toInt ∧ (V.1.2.2.2.2.2.2 t).toInt ≤ (mx_iv t).2) ∧ (∀ z ∈ V.2.2.2.2, va_Z z.1 z.2.1 z.2.2.1 (mx_v V.1 z.2.2.2) (fun q => V.1.2.2.2.1 ≤ q) U V.1.2.2.2.2.2.1) ∧ mx_SK V.1 U
theorem mx_KK.warm {V : mx_Ev} {s U : State} (hW : s.WarmedH U.vm) (h : mx_KK V s) : mx_KK V U := by
  obtain ⟨h1, h2, h3, h5, h4, h6⟩ := h
  exact ⟨va_K.moved hW.alike h1, fun C hC => va_AO.moved hW.alike (h2 C hC), fun w hw => va_Nw.warmM hW (h3 w hw), h5, fun z hz => va_Z.moved hW.alike (h4 z hz), mx_SK.moved hW.alike (fun w hw => vk_R.warm hW (h6.1 w hw).1) h6⟩
def mx_rm (d c s : Nat) : Room := { frames := d, cells := c, slots := s, locals := 64 * d }
def mx_Pc (V : mx_Ev) (as : List Value) (h : mx_H) : Array Value → State → Prop := fun vs U => vs = (as.map (mx_v V.1)).toArray ∧ mx_Rp V.1 U h U.heap ∧ mx_KK V U
def mx_Qc (V : mx_Ev) (r : mx_R) : Array Value → State → Outcome → State → Prop := fun _ _ oc t => oc = .returned (r.1.map (mx_v V.1)) ∧ mx_Rp V.1 t r.2 t.heap
def mx_up (V : mx_Ev) : Addr → Prop := fun q => V.1.2.2.2.1 ≤ q
def mx_le (h h2 : mx_H) : Prop := h.1 ≤ h2.1 ∧ h.2.1 ≤ h2.2.1
theorem mx_le.rf (h : mx_H) : mx_le h h := ⟨Nat.le_refl _, Nat.le_refl _⟩
theorem mx_le.tr {a b c : mx_H} (h : mx_le a b) (h2 : mx_le b c) : mx_le a c := ⟨Nat.le_trans h.1 h2.1, Nat.le_trans h.2 h2.2⟩
