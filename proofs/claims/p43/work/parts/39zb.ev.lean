/-! laws as rows of words: their sorts, how deep they go, what they are worth -/
section EVa
def clp (z : Int) : Int := if 1000000 < z then 1000000 else if z < -1000000 then -1000000 else z
theorem clp_b (z : Int) : -1000000 ≤ clp z ∧ clp z ≤ 1000000 := by
  unfold clp
  split
  · omega
  · split <;> omega
theorem clp_i {z : Int} (h : -1000000 ≤ z ∧ z ≤ 1000000) : clp z = z := by
  unfold clp
  rw [if_neg (by omega), if_neg (by omega)]
def opv (w a b : Int) : Int := if w = 1010 then clp (a + b) else if w = 1011 then clp (a - b) else if w = 1012 then clp (a * b) else if w = 1013 then (if a = b then 1 else 0) else if w = 1014 then (if a < b then 1 else 0) else if w = 1015 then (if b < a then 1 else 0) else if w = 1016 then (if a = 1 ∧ b = 1 then 1 else 0) else (if a = 1 ∨ b = 1 then 1 else 0)
noncomputable def stp (E : Int → Int) (w : Int) (st : List Int) : List Int :=
  if w ≤ 1004 then (if w < 1000 then w else E (w - 1000)) :: st
  else match st with
  | [] => []
  | a :: r => if w = 1018 then (1 - a) :: r else match r with
    | [] => []
    | b :: r2 => if w = 1019 then (match r2 with
      | [] => []
      | c :: r3 => (if c = 1 then b else a) :: r3) else opv w b a :: r2
noncomputable def evl (E : Int → Int) : List Int → List Int → List Int
  | [], st => st
  | w :: ws, st => evl E ws (stp E w st)
theorem evl_a (E : Int → Int) : ∀ (u v st : List Int), evl E (u ++ v) st = evl E v (evl E u st)
  | [], _, _ => rfl
  | w :: u, v, st => evl_a E u v (stp E w st)
/-- sorts: true a truth, false a number -/
def tst (w : Int) (ts : List Bool) : Option (List Bool) :=
  if w < 0 then none else if w ≤ 1004 then some (false :: ts) else match ts with
  | [] => none
  | a :: r => if w = 1018 then (if a then some (true :: r) else none) else match r with
    | [] => none
    | b :: r2 => if w = 1019 then (match r2 with
      | [] => none
      | c :: r3 => if c && (!a && !b) then some (false :: r3) else none)
      else if 1010 ≤ w ∧ w ≤ 1012 then (if a || b then none else some (false :: r2))
      else if 1013 ≤ w ∧ w ≤ 1015 then (if a || b then none else some (true :: r2))
      else if 1016 ≤ w ∧ w ≤ 1017 then (if a && b then some (true :: r2) else none) else none
def tck (m : Nat) : List Int → List Bool → Option (List Bool)
  | [], ts => some ts
  | w :: ws, ts => match tst w ts with
    | none => none
    | some t2 => if t2.length ≤ m then tck m ws t2 else none
theorem tck_s {m : Nat} {w : Int} {ws : List Int} {ts t2 : List Bool} (h : tst w ts = some t2) (hl : t2.length ≤ m) : tck m (w :: ws) ts = tck m ws t2 := by
  show (match tst w ts with
    | none => none
    | some t2 => if t2.length ≤ m then tck m ws t2 else none) = _
  rw [h]
  exact if_pos hl
theorem tck_a {m : Nat} : ∀ {u v : List Int} {ts t2 : List Bool}, tck m u ts = some t2 → tck m (u ++ v) ts = tck m v t2
  | [], v, ts, t2, h => by
    have h : some ts = some t2 := h
    cases h; rfl
  | w :: u, v, ts, t2, h => by
    have h : (match tst w ts with
      | none => none
      | some t3 => if t3.length ≤ m then tck m u t3 else none) = some t2 := h
    cases e : tst w ts with
    | none => rw [e] at h; cases h
    | some t3 =>
      rw [e] at h
      by_cases hl : t3.length ≤ m
      · have h : (if t3.length ≤ m then tck m u t3 else none) = some t2 := h
        rw [if_pos hl] at h
        rw [List.cons_append, tck_s e hl]
        exact tck_a h
      · have h : (if t3.length ≤ m then tck m u t3 else none) = some t2 := h
        rw [if_neg hl] at h; cases h
theorem tck_m {m m' : Nat} (hm : m ≤ m') : ∀ {u : List Int} {ts t2 : List Bool}, tck m u ts = some t2 → tck m' u ts = some t2
  | [], ts, t2, h => h
  | w :: u, ts, t2, h => by
    have h : (match tst w ts with
      | none => none
      | some t3 => if t3.length ≤ m then tck m u t3 else none) = some t2 := h
    cases e : tst w ts with
    | none => rw [e] at h; cases h
    | some t3 =>
      rw [e] at h
      have h : (if t3.length ≤ m then tck m u t3 else none) = some t2 := h
      by_cases hl : t3.length ≤ m
      · rw [if_pos hl] at h
        rw [tck_s e (Nat.le_trans hl hm)]
        exact tck_m hm h
      · rw [if_neg hl] at h; cases h
/-- words of a sort, that go m deep at most -/
def OKc (m : Nat) (ws : List Int) (ty : Bool) : Prop := ∀ ts : List Bool, tck (ts.length + m) ws ts = some (ty :: ts)
theorem OKc_m {m m' : Nat} {ws : List Int} {ty : Bool} (h : OKc m ws ty) (hm : m ≤ m') : OKc m' ws ty := fun ts => tck_m (by omega) (h ts)
theorem OK_at {w : Int} (h : 0 ≤ w ∧ w ≤ 1004) : OKc 1 [w] false := fun ts => by
  have e : tst w ts = some (false :: ts) := (if_neg (by omega)).trans (if_pos h.2)
  rw [tck_s e (by show ts.length + 1 ≤ ts.length + 1; omega)]
  rfl
theorem tst_2 {w : Int} {a b : Bool} {ts : List Bool} (h : 1010 ≤ w ∧ w ≤ 1017) : tst w (a :: b :: ts) = if 1010 ≤ w ∧ w ≤ 1012 then (if a || b then none else some (false :: ts)) else if 1013 ≤ w ∧ w ≤ 1015 then (if a || b then none else some (true :: ts)) else if 1016 ≤ w ∧ w ≤ 1017 then (if a && b then some (true :: ts) else none) else none := by
  unfold tst
  rw [if_neg (by omega), if_neg (by omega)]
  show (if w = 1018 then _ else _) = _
  rw [if_neg (by omega)]
  show (if w = 1019 then _ else _) = _
  rw [if_neg (by omega)]
theorem OK_bin {m : Nat} {u v : List Int} {w : Int} {ty : Bool} (hu : OKc (m + 1) u (decide (1016 ≤ w))) (hv : OKc m v (decide (1016 ≤ w))) (hw : 1010 ≤ w ∧ w ≤ 1017) (ht : ty = decide (1013 ≤ w)) (hm : 1 ≤ m) : OKc (m + 1) (u ++ (v ++ [w])) ty := fun ts => by
  have h1 : tck (ts.length + (m + 1)) u ts = some (decide (1016 ≤ w) :: ts) := hu ts
  rw [tck_a h1]
  have h2 : tck (ts.length + (m + 1)) v (decide (1016 ≤ w) :: ts) = some (decide (1016 ≤ w) :: decide (1016 ≤ w) :: ts) := tck_m (by show ts.length + 1 + m ≤ _; omega) (hv (decide (1016 ≤ w) :: ts))
  rw [tck_a h2]
  have e : tst w (decide (1016 ≤ w) :: decide (1016 ≤ w) :: ts) = some (ty :: ts) := by
    rw [tst_2 hw, ht]
    by_cases c1 : w ≤ 1012
    · rw [if_pos ⟨hw.1, c1⟩, decide_eq_false (show ¬ 1016 ≤ w by omega), decide_eq_false (show ¬ 1013 ≤ w by omega)]; rfl
    · by_cases c2 : w ≤ 1015
      · rw [if_neg (by omega), if_pos ⟨by omega, c2⟩, decide_eq_false (show ¬ 1016 ≤ w by omega), decide_eq_true (show 1013 ≤ w by omega)]; rfl
      · rw [if_neg (by omega), if_neg (by omega), if_pos ⟨by omega, hw.2⟩, decide_eq_true (show 1016 ≤ w by omega), decide_eq_true (show 1013 ≤ w by omega)]; rfl
  rw [tck_s e (by show ts.length + 1 ≤ _; omega)]
  rfl
theorem OK_not {m : Nat} {u : List Int} (hu : OKc m u true) (hm : 1 ≤ m) : OKc m (u ++ [1018]) true := fun ts => by
  rw [tck_a (hu ts)]
  have e : tst 1018 (true :: ts) = some (true :: ts) := rfl
  rw [tck_s e (by show ts.length + 1 ≤ _; omega)]
  rfl
theorem OK_if {m : Nat} {t u v : List Int} (ht : OKc (m + 2) t true) (hu : OKc (m + 1) u false) (hv : OKc m v false) (hm : 1 ≤ m) : OKc (m + 2) (t ++ (u ++ (v ++ [1019]))) false := fun ts => by
  have h1 : tck (ts.length + (m + 2)) t ts = some (true :: ts) := ht ts
  rw [tck_a h1]
  have h2 : tck (ts.length + (m + 2)) u (true :: ts) = some (false :: true :: ts) := tck_m (by show ts.length + 1 + (m + 1) ≤ ts.length + (m + 2); omega) (hu (true :: ts))
  rw [tck_a h2]
  have h3 : tck (ts.length + (m + 2)) v (false :: true :: ts) = some (false :: false :: true :: ts) := tck_m (by show ts.length + 1 + 1 + m ≤ _; omega) (hv (false :: true :: ts))
  rw [tck_a h3]
  have e : tst 1019 (false :: false :: true :: ts) = some (false :: ts) := rfl
  rw [tck_s e (by show ts.length + 1 ≤ _; omega)]
  rfl
end EVa
