noncomputable def tev : mx_F := mx_ev (mx_pg tinfo) 1000000 30
noncomputable def h_0 : mx_H := (1, 0, mx_set 12 (mx_rep (.inl (0, [])) 12) 0 (.inr (.int, 0, mx_rep (.int 0) 13)))
noncomputable def f_11 : List Value := [.null, .int 0, .int 0, .int 0, .null, .null, .null, .null, .null, .null, .null, .null, .null, .null, .null, .null, .null]
noncomputable def f_12 : List Value := [.int 0, .null, .null, .null, .null, .int 0, .int 0, .int 0, .int 0, .int 0, .int 0, .int 0, .int 0, .int 0, .int 0, .null, .null, .null, .int 0, .null, .null, .null, .int 0, .int 0, .null, .null, .null, .null, .null, .null, .int 0, .int 0, .null, .null, .null, .null, .null, .null, .null, .null, .null, .null]
noncomputable def rsh (o : Option mx_R) : mx_H := match o with
  | some r => r.2
  | none => h_0
noncomputable def isv (o : Option mx_R) : Bool := match o with
  | some r => r.1.isNone
  | none => false
theorem isv_ok {o : Option mx_R} (h : isv o = true) : o = some (none, rsh o) := by
  cases o with
  | none => cases h
  | some r =>
    obtain ⟨v, q⟩ := r
    cases v with
    | none => rfl
    | some w => cases h
theorem mx_push_1 (h : mx_H) (n : Nat) (c : mx_C) : (mx_push h n c).1 = h.1 + 1 := rfl
theorem mx_push_2 (h : mx_H) (n : Nat) (c : mx_C) : (mx_push h n c).2.1 = h.2.1 + n := rfl
noncomputable def h_1 : mx_H := mx_push h_0 17 (.inl (11, f_11))
noncomputable def h_2 : mx_H := rsh (tev 88 [.ref 1] h_1)
noncomputable def h_3 : mx_H := mx_push h_2 42 (.inl (12, f_12))
noncomputable def h_4 : mx_H := rsh (tev 155 [.ref 56] h_3)
noncomputable def dz (v : Value) : Int := match v with
  | .int x => x.toInt
  | .long x => x.toInt
  | .ref a => (a : Int)
  | _ => 0
noncomputable def dzo (v : Option Value) : Int := match v with
  | some v => dz v
  | none => 0
noncomputable def kd (t : Nat) (v : Value) : Bool := match t, v with
  | 0, .int _ => true
  | 1, .long _ => true
  | 2, .ref _ => true
  | _, _ => false
theorem kd_vl {t : Nat} {v : Value} (h : kd t v = true) : vl t (dz v) = v := by
  unfold kd at h
  split at h
  · rename_i x; show Value.int (Int32.ofInt x.toInt) = _; rw [Int32.ofInt_toInt]
  · rename_i x; show Value.long (Int64.ofInt x.toInt) = _; rw [Int64.ofInt_toInt]
  · rename_i x; show Value.ref ((x : Int).toNat) = _; rw [Int.toNat_natCast]
  · cases h
noncomputable def allT {α : Type} (p : α → Bool) (n : Nat) : mx_T α n → Bool := Nat.rec (motive := fun n => mx_T α n → Bool) (fun t => p t) (fun n ih (t : mx_T α n × mx_T α n) => ih t.1 && ih t.2) n
theorem allT_get {α : Type} {p : α → Bool} : ∀ (n : Nat) (t : mx_T α n) (i : Nat), allT p n t = true → p (mx_get n t i) = true
  | 0, _, _, h => h
  | n + 1, t, i, h => by
    have h : (allT p n (Prod.fst (α := mx_T α n) (β := mx_T α n) t) && allT p n (Prod.snd (α := mx_T α n) (β := mx_T α n) t)) = true := h
    rw [Bool.and_eq_true] at h
    rw [show mx_get (n + 1) t i = (bif Nat.beq (Nat.mod i 2) 0 then mx_get n (Prod.fst (α := mx_T α n) (β := mx_T α n) t) (Nat.div i 2) else mx_get n (Prod.snd (α := mx_T α n) (β := mx_T α n) t) (Nat.div i 2)) from rfl]
    cases Nat.beq (Nat.mod i 2) 0
    · exact allT_get n _ _ h.2
    · exact allT_get n _ _ h.1
noncomputable def allL {α : Type} (p : α → Bool) (n : Nat) : mx_T α n → Nat → Bool := Nat.rec (motive := fun n => mx_T α n → Nat → Bool) (fun t m => bif Nat.beq m 0 then true else p t) (fun n ih (t : mx_T α n × mx_T α n) m => bif Nat.beq m 0 then true else (ih t.1 (Nat.div (Nat.add m 1) 2) && ih t.2 (Nat.div m 2))) n
theorem allL_get {α : Type} {p : α → Bool} : ∀ (n : Nat) (t : mx_T α n) (m i : Nat), allL p n t m = true → i < m → p (mx_get n t i) = true
  | 0, t, m, i, h, hi => by
    have h : (bif Nat.beq m 0 then true else p t) = true := h
    have hm : Nat.beq m 0 = false := Bool.eq_false_iff.mpr (fun w => by have := Nat.eq_of_beq_eq_true w; omega)
    rw [hm] at h
    exact h
  | n + 1, t, m, i, h, hi => by
    have hm : Nat.beq m 0 = false := Bool.eq_false_iff.mpr (fun w => by have := Nat.eq_of_beq_eq_true w; omega)
    have h : (bif Nat.beq m 0 then true else (allL p n (Prod.fst (α := mx_T α n) (β := mx_T α n) t) (Nat.div (Nat.add m 1) 2) && allL p n (Prod.snd (α := mx_T α n) (β := mx_T α n) t) (Nat.div m 2))) = true := h
    rw [hm] at h
    have h : (allL p n (Prod.fst (α := mx_T α n) (β := mx_T α n) t) (Nat.div (Nat.add m 1) 2) && allL p n (Prod.snd (α := mx_T α n) (β := mx_T α n) t) (Nat.div m 2)) = true := h
    rw [Bool.and_eq_true] at h
    rw [show mx_get (n + 1) t i = (bif Nat.beq (Nat.mod i 2) 0 then mx_get n (Prod.fst (α := mx_T α n) (β := mx_T α n) t) (Nat.div i 2) else mx_get n (Prod.snd (α := mx_T α n) (β := mx_T α n) t) (Nat.div i 2)) from rfl]
    cases hq : Nat.beq (Nat.mod i 2) 0
    · have q : i % 2 ≠ 0 := Nat.ne_of_beq_eq_false hq
      exact allL_get n _ _ _ h.2 (show i / 2 < m / 2 by omega)
    · have q : i % 2 = 0 := Nat.eq_of_beq_eq_true hq
      exact allL_get n _ _ _ h.1 (show i / 2 < (m + 1) / 2 by omega)
noncomputable def allN (p : Nat → Bool) (n : Nat) : Bool := Nat.rec (motive := fun _ => Bool) true (fun i b => p i && b) n
theorem allN_ok {p : Nat → Bool} : ∀ {n : Nat}, allN p n = true → ∀ i, i < n → p i = true
  | 0, _, i, hi => absurd hi (by omega)
  | n + 1, h, i, hi => by
    have h : (p n && allN p n) = true := h
    rw [Bool.and_eq_true] at h
    by_cases e : i = n
    · rw [e]; exact h.1
    · exact allN_ok h.2 i (by omega)
noncomputable def kds : List Nat → List Value → Bool
  | [], [] => true
  | k :: ks, v :: fs => kd k v && kds ks fs
  | _, _ => false
noncomputable def lfI (lo hi : Int) (x : Int32) : Bool := decide (lo ≤ x.toInt) && decide (x.toInt ≤ hi)
noncomputable def lfL (lo hi : Int) (x : Int64) : Bool := decide (lo ≤ x.toInt) && decide (x.toInt ≤ hi)
noncomputable def lf (t : Nat) (lo hi : Int) (v : Value) : Bool := match t, v with
  | 0, .int x => lfI lo hi x
  | 1, .long x => lfL lo hi x
  | 2, .ref a => decide (lo ≤ (a : Int)) && decide ((a : Int) ≤ hi)
  | _, _ => false
theorem lf_ok {t : Nat} {lo hi : Int} {v : Value} (h : lf t lo hi v = true) : vl t (dz v) = v ∧ lo ≤ dz v ∧ dz v ≤ hi := by
  unfold lf at h
  split at h
  · rename_i x
    unfold lfI at h
    rw [Bool.and_eq_true] at h
    exact ⟨kd_vl (t := 0) rfl, of_decide_eq_true h.1, of_decide_eq_true h.2⟩
  · rename_i x
    unfold lfL at h
    rw [Bool.and_eq_true] at h
    exact ⟨kd_vl (t := 1) rfl, of_decide_eq_true h.1, of_decide_eq_true h.2⟩
  · rename_i x
    rw [Bool.and_eq_true] at h
    exact ⟨kd_vl (t := 2) rfl, of_decide_eq_true h.1, of_decide_eq_true h.2⟩
  · cases h
noncomputable def df (k : Nat) : Int := if k = 34 then 44 else if k = 35 then 52 else 0
noncomputable def zc (k : Nat) (c : mx_C) (i : Int) : Int := match c with
  | .inl (_, fs) => dzo (mx_nth fs i.toNat)
  | .inr (_, len, T) => if 0 ≤ i ∧ i < (len : Int) then dz (mx_get 13 T i.toNat) else df k
theorem kds_fl : ∀ {ks : List Nat} {fs : List Value} {f : Int → Int} {i : Nat}, kds ks fs = true → (∀ (j : Nat) (v : Value), mx_nth fs j = some v → f ((i + j : Nat) : Int) = dz v) → fl ks f i = fs
  | [], [], _, _, _, _ => rfl
  | [], _ :: _, _, _, h, _ => by cases h
  | _ :: _, [], _, _, h, _ => by cases h
  | k :: ks, v :: fs, f, i, h, hf => by
    have h : (kd k v && kds ks fs) = true := h
    rw [Bool.and_eq_true] at h
    show vl k (f (i : Int)) :: fl ks f (i + 1) = v :: fs
    rw [kds_fl h.2 (fun j v2 hj => by rw [show i + 1 + j = i + (j + 1) by omega]; exact hf (j + 1) v2 hj), show f (i : Int) = dz v from hf 0 v rfl, kd_vl h.1]
noncomputable def S0 : Nat → xS := fun k => if k < 83 then sh0 k else .inl (99, [])
noncomputable def Z0 : xZ := fun k i => if k < 83 then zc k (mx_get 12 h_4.2.2 k) i else 0
/-- bounds of a cell's places -/
def objs : List Nat := [1, 3, 7, 12, 13, 20, 25, 32, 36, 37, 38, 39, 40, 44, 46, 48, 50, 52, 53, 54, 55, 56]
def isO (k : Nat) : Bool := objs.any (fun q => Nat.beq q k)
noncomputable def bdl (k : Nat) : List (Int × Int) := match k with
  | 1 => [(2, 2), (0, 900), (0, 4), ((-1), 900), (3, 3), (7, 7), (12, 12), (20, 20), (25, 25), (32, 32), (34, 34), (35, 35), (36, 36), (38, 38), (40, 40), (42, 42), (43, 43)]
  | 3 => [(2, 4), (0, 900), (0, 900), (0, 900), (0, 400), (0, 999), (5, 5), (0, 900), (0, 4096), (0, 4096), (0, 901), (6, 6), (0, 18), (0, 9), (0, 4), ((-1), 900)]
  | 7 => [(8, 8), (9, 9), (10, 10), (11, 11), (0, 18), (0, 385)]
  | 12 => [(7, 7), (0, 4096), ((-2147483648), 2147483647), (14, 14), (15, 15), (16, 16), (17, 17), (18, 18), (19, 19)]
  | 13 => [(0, 0), (0, 0), ((-2147483648), 2147483647)]
  | 20 => [(7, 7), (12, 12), (21, 21), (22, 22), (23, 23), (24, 24), (0, 2147483647), (1, 2147483647), ((-2147483648), 2147483647), ((-2147483648), 2147483647), ((-2147483648), 2147483647), ((-2147483648), 2147483647)]
  | 25 => [(7, 7), (12, 12), (26, 26), (27, 27), (28, 28), (29, 29), (30, 30), (31, 31), (0, 385)]
  | 32 => [(7, 7), (12, 12), (33, 33)]
  | 36 => [(0, 4096), (1, 18), (0, 384), (0, 9), ((-2147483648), 2147483647), (0, 1)]
  | 37 => [(0, 0), (0, 0), ((-2147483648), 2147483647)]
  | 38 => [(0, 4096), (1, 18), (0, 384), (0, 9), ((-2147483648), 2147483647), (0, 1)]
  | 39 => [(0, 0), (0, 0), ((-2147483648), 2147483647)]
  | 40 => [(41, 41), (0, 10)]
  | 44 => [(45, 45), (0, 3), (0, 40), (0, 1)]
  | 46 => [(47, 47), (0, 3), (0, 40), (0, 1)]
  | 48 => [(49, 49), (0, 3), (0, 40), (0, 1)]
  | 50 => [(51, 51), (0, 3), (0, 40), (0, 1)]
  | 52 => [(0, 4096), (1, 18), (0, 384), (0, 9), ((-2147483648), 2147483647), (0, 1)]
  | 53 => [(0, 0), (0, 0), ((-2147483648), 2147483647)]
  | 54 => [(0, 4096), (1, 18), (0, 384), (0, 9), ((-2147483648), 2147483647), (0, 1)]
  | 55 => [(0, 0), (0, 0), ((-2147483648), 2147483647)]
  | 56 => [((-2147483648), 2147483647), (57, 57), (58, 58), (59, 59), (60, 60), (0, 900), (0, 900), (0, 900), (0, 900), (0, 100), (0, 999), (0, 4), (0, 900), (0, 4), ((-1), 900), (61, 61), (62, 62), (63, 63), (0, 385), (64, 64), (65, 65), (66, 66), (0, 2), ((-2147483648), 2147483647), (67, 67), (68, 68), (69, 69), (70, 70), (71, 71), (72, 72), (0, 386), (0, 385), (73, 73), (74, 74), (75, 75), (76, 76), (77, 77), (78, 78), (79, 79), (80, 80), (81, 81), (82, 82)]
  | _ => []
noncomputable def ck (k : Nat) (sh : xS) (c : mx_C) : Bool := match sh, c with
  | .inl (ci, ks), .inl (c2, fs) => Nat.beq ci c2 && (kds ks fs && (isO k && (Nat.ble (bdl k).length fs.length && allN (fun j => decide ((lk (bdl k) (j : Int)).1 ≤ dzo (mx_nth fs j)) && decide (dzo (mx_nth fs j) ≤ (lk (bdl k) (j : Int)).2)) fs.length)))
  | .inr (ty, len, t), .inr (ty2, len2, T) => decide (ty = ty2) && (Nat.beq len len2 && (Nat.ble len 8192 && ((!isO k) && allL (lf t (bd k 0).1 (bd k 0).2) 13 T len)))
  | _, _ => false
theorem ck_R {k : Nat} {sh : xS} {c : mx_C} (h : ck k sh c = true) : cR sh (zc k c) c := by
  unfold ck at h
  split at h
  · rename_i ci ks c2 fs
    rw [Bool.and_eq_true, Bool.and_eq_true] at h
    have e := Nat.eq_of_beq_eq_true h.1
    show (Sum.inl (c2, fs) : mx_C) = .inl (ci, fl ks (zc k (.inl (c2, fs))) 0)
    rw [e, kds_fl h.2.1 (fun j v hj => by show dzo (mx_nth fs ((0 + j : Nat) : Int).toNat) = dz v; rw [Nat.zero_add, Int.toNat_natCast, hj]; rfl)]
  · rename_i ty len t ty2 len2 T
    rw [Bool.and_eq_true, Bool.and_eq_true, Bool.and_eq_true, Bool.and_eq_true] at h
    obtain ⟨h1, h2, h3, h5, h4⟩ := h
    have e1 := of_decide_eq_true h1
    have e2 := Nat.eq_of_beq_eq_true h2
    subst e1; subst e2
    refine ⟨T, rfl, Nat.ble_eq.mp h3, fun j hj => ?_⟩
    have hk := (lf_ok (allL_get 13 T len j h4 hj)).1
    show mx_get 13 T j = vl t (if 0 ≤ (j : Int) ∧ (j : Int) < (len : Int) then dz (mx_get 13 T (j : Int).toNat) else df k)
    rw [if_pos ⟨by omega, by omega⟩, Int.toNat_natCast, hk]
  · cases h
theorem lk_big {l : List (Int × Int)} {i : Int} (h : l.length ≤ i.toNat) : lk l i = (-9223372036854775808, 9223372036854775807) := by
  unfold lk
  rw [mx_nth_eq, List.getElem?_eq_none h]; rfl
theorem lk_nat {l : List (Int × Int)} {i : Int} : lk l ((i.toNat : Nat) : Int) = lk l i := by
  unfold lk
  rw [Int.toNat_natCast]
set_option maxRecDepth 100000 in
theorem bd_fO : ∀ k, k < 83 → isO k = true → ∀ i, bd k i = lk (bdl k) i := by
  intro k hk hO
  match k, hk, hO with
  | 0, _, h => exact absurd h (by decide)
  | 1, _, _ => exact fun i => rfl
  | 2, _, h => exact absurd h (by decide)
  | 3, _, _ => exact fun i => rfl
  | 4, _, h => exact absurd h (by decide)
  | 5, _, h => exact absurd h (by decide)
  | 6, _, h => exact absurd h (by decide)
  | 7, _, _ => exact fun i => rfl
  | 8, _, h => exact absurd h (by decide)
  | 9, _, h => exact absurd h (by decide)
  | 10, _, h => exact absurd h (by decide)
  | 11, _, h => exact absurd h (by decide)
  | 12, _, _ => exact fun i => rfl
  | 13, _, _ => exact fun i => rfl
  | 14, _, h => exact absurd h (by decide)
  | 15, _, h => exact absurd h (by decide)
  | 16, _, h => exact absurd h (by decide)
  | 17, _, h => exact absurd h (by decide)
  | 18, _, h => exact absurd h (by decide)
  | 19, _, h => exact absurd h (by decide)
  | 20, _, _ => exact fun i => rfl
  | 21, _, h => exact absurd h (by decide)
  | 22, _, h => exact absurd h (by decide)
  | 23, _, h => exact absurd h (by decide)
  | 24, _, h => exact absurd h (by decide)
  | 25, _, _ => exact fun i => rfl
  | 26, _, h => exact absurd h (by decide)
  | 27, _, h => exact absurd h (by decide)
  | 28, _, h => exact absurd h (by decide)
  | 29, _, h => exact absurd h (by decide)
  | 30, _, h => exact absurd h (by decide)
  | 31, _, h => exact absurd h (by decide)
  | 32, _, _ => exact fun i => rfl
  | 33, _, h => exact absurd h (by decide)
  | 34, _, h => exact absurd h (by decide)
  | 35, _, h => exact absurd h (by decide)
  | 36, _, _ => exact fun i => rfl
  | 37, _, _ => exact fun i => rfl
  | 38, _, _ => exact fun i => rfl
  | 39, _, _ => exact fun i => rfl
  | 40, _, _ => exact fun i => rfl
  | 41, _, h => exact absurd h (by decide)
  | 42, _, h => exact absurd h (by decide)
  | 43, _, h => exact absurd h (by decide)
  | 44, _, _ => exact fun i => rfl
  | 45, _, h => exact absurd h (by decide)
  | 46, _, _ => exact fun i => rfl
  | 47, _, h => exact absurd h (by decide)
  | 48, _, _ => exact fun i => rfl
  | 49, _, h => exact absurd h (by decide)
  | 50, _, _ => exact fun i => rfl
  | 51, _, h => exact absurd h (by decide)
  | 52, _, _ => exact fun i => rfl
  | 53, _, _ => exact fun i => rfl
  | 54, _, _ => exact fun i => rfl
  | 55, _, _ => exact fun i => rfl
  | 56, _, _ => exact fun i => rfl
  | 57, _, h => exact absurd h (by decide)
  | 58, _, h => exact absurd h (by decide)
  | 59, _, h => exact absurd h (by decide)
  | 60, _, h => exact absurd h (by decide)
  | 61, _, h => exact absurd h (by decide)
  | 62, _, h => exact absurd h (by decide)
  | 63, _, h => exact absurd h (by decide)
  | 64, _, h => exact absurd h (by decide)
  | 65, _, h => exact absurd h (by decide)
  | 66, _, h => exact absurd h (by decide)
  | 67, _, h => exact absurd h (by decide)
  | 68, _, h => exact absurd h (by decide)
  | 69, _, h => exact absurd h (by decide)
  | 70, _, h => exact absurd h (by decide)
  | 71, _, h => exact absurd h (by decide)
  | 72, _, h => exact absurd h (by decide)
  | 73, _, h => exact absurd h (by decide)
  | 74, _, h => exact absurd h (by decide)
  | 75, _, h => exact absurd h (by decide)
  | 76, _, h => exact absurd h (by decide)
  | 77, _, h => exact absurd h (by decide)
  | 78, _, h => exact absurd h (by decide)
  | 79, _, h => exact absurd h (by decide)
  | 80, _, h => exact absurd h (by decide)
  | 81, _, h => exact absurd h (by decide)
  | 82, _, h => exact absurd h (by decide)
  | k + 83, h, _ => exact absurd h (by omega)
set_option maxRecDepth 100000 in
theorem bd_fA : ∀ k, k < 83 → isO k = false → ∃ q : Int × Int, (∀ i, bd k i = q) ∧ q.1 ≤ df k ∧ df k ≤ q.2 := by
  intro k hk hO
  match k, hk, hO with
  | 0, _, _ => exact ⟨((-2147483648), 2147483647), fun i => rfl, by decide, by decide⟩
  | 1, _, h => exact absurd h (by decide)
  | 2, _, _ => exact ⟨((-128), 127), fun i => rfl, by decide, by decide⟩
  | 3, _, h => exact absurd h (by decide)
  | 4, _, _ => exact ⟨((-128), 127), fun i => rfl, by decide, by decide⟩
  | 5, _, _ => exact ⟨(0, 1019), fun i => rfl, by decide, by decide⟩
  | 6, _, _ => exact ⟨(0, 20), fun i => rfl, by decide, by decide⟩
  | 7, _, h => exact absurd h (by decide)
  | 8, _, _ => exact ⟨(0, 385), fun i => rfl, by decide, by decide⟩
  | 9, _, _ => exact ⟨(0, 18), fun i => rfl, by decide, by decide⟩
  | 10, _, _ => exact ⟨(0, 18), fun i => rfl, by decide, by decide⟩
  | 11, _, _ => exact ⟨(0, 18), fun i => rfl, by decide, by decide⟩
  | 12, _, h => exact absurd h (by decide)
  | 13, _, h => exact absurd h (by decide)
  | 14, _, _ => exact ⟨((-2147483648), 2147483647), fun i => rfl, by decide, by decide⟩
  | 15, _, _ => exact ⟨((-2147483648), 2147483647), fun i => rfl, by decide, by decide⟩
  | 16, _, _ => exact ⟨((-2147483648), 2147483647), fun i => rfl, by decide, by decide⟩
  | 17, _, _ => exact ⟨((-2147483648), 2147483647), fun i => rfl, by decide, by decide⟩
  | 18, _, _ => exact ⟨((-2147483648), 2147483647), fun i => rfl, by decide, by decide⟩
  | 19, _, _ => exact ⟨((-2147483648), 2147483647), fun i => rfl, by decide, by decide⟩
  | 20, _, h => exact absurd h (by decide)
  | 21, _, _ => exact ⟨(0, 384), fun i => rfl, by decide, by decide⟩
  | 22, _, _ => exact ⟨((-2147483648), 2147483647), fun i => rfl, by decide, by decide⟩
  | 23, _, _ => exact ⟨((-2147483648), 2147483647), fun i => rfl, by decide, by decide⟩
  | 24, _, _ => exact ⟨((-2147483648), 2147483647), fun i => rfl, by decide, by decide⟩
  | 25, _, h => exact absurd h (by decide)
  | 26, _, _ => exact ⟨(0, 384), fun i => rfl, by decide, by decide⟩
  | 27, _, _ => exact ⟨(0, 384), fun i => rfl, by decide, by decide⟩
  | 28, _, _ => exact ⟨(0, 18), fun i => rfl, by decide, by decide⟩
  | 29, _, _ => exact ⟨((-2147483648), 2147483647), fun i => rfl, by decide, by decide⟩
  | 30, _, _ => exact ⟨((-2147483648), 2147483647), fun i => rfl, by decide, by decide⟩
  | 31, _, _ => exact ⟨((-2147483648), 2147483647), fun i => rfl, by decide, by decide⟩
  | 32, _, h => exact absurd h (by decide)
  | 33, _, _ => exact ⟨((-9223372036854775808), 9223372036854775807), fun i => rfl, by decide, by decide⟩
  | 34, _, _ => exact ⟨(44, 50), fun i => rfl, by decide, by decide⟩
  | 35, _, _ => exact ⟨(52, 54), fun i => rfl, by decide, by decide⟩
  | 36, _, h => exact absurd h (by decide)
  | 37, _, h => exact absurd h (by decide)
  | 38, _, h => exact absurd h (by decide)
  | 39, _, h => exact absurd h (by decide)
  | 40, _, h => exact absurd h (by decide)
  | 41, _, _ => exact ⟨((-2147483648), 2147483647), fun i => rfl, by decide, by decide⟩
  | 42, _, _ => exact ⟨((-2147483648), 2147483647), fun i => rfl, by decide, by decide⟩
  | 43, _, _ => exact ⟨(0, 18), fun i => rfl, by decide, by decide⟩
  | 44, _, h => exact absurd h (by decide)
  | 45, _, _ => exact ⟨((-9223372036854775808), 9223372036854775807), fun i => rfl, by decide, by decide⟩
  | 46, _, h => exact absurd h (by decide)
  | 47, _, _ => exact ⟨((-9223372036854775808), 9223372036854775807), fun i => rfl, by decide, by decide⟩
  | 48, _, h => exact absurd h (by decide)
  | 49, _, _ => exact ⟨((-9223372036854775808), 9223372036854775807), fun i => rfl, by decide, by decide⟩
  | 50, _, h => exact absurd h (by decide)
  | 51, _, _ => exact ⟨((-9223372036854775808), 9223372036854775807), fun i => rfl, by decide, by decide⟩
  | 52, _, h => exact absurd h (by decide)
  | 53, _, h => exact absurd h (by decide)
  | 54, _, h => exact absurd h (by decide)
  | 55, _, h => exact absurd h (by decide)
  | 56, _, h => exact absurd h (by decide)
  | 57, _, _ => exact ⟨((-2147483648), 2147483647), fun i => rfl, by decide, by decide⟩
  | 58, _, _ => exact ⟨(0, 1), fun i => rfl, by decide, by decide⟩
  | 59, _, _ => exact ⟨(0, 255), fun i => rfl, by decide, by decide⟩
  | 60, _, _ => exact ⟨((-2147483648), 2147483647), fun i => rfl, by decide, by decide⟩
  | 61, _, _ => exact ⟨(0, 18), fun i => rfl, by decide, by decide⟩
  | 62, _, _ => exact ⟨((-2147483648), 2147483647), fun i => rfl, by decide, by decide⟩
  | 63, _, _ => exact ⟨(0, 18), fun i => rfl, by decide, by decide⟩
  | 64, _, _ => exact ⟨((-2147483648), 2147483647), fun i => rfl, by decide, by decide⟩
  | 65, _, _ => exact ⟨((-2147483648), 2147483647), fun i => rfl, by decide, by decide⟩
  | 66, _, _ => exact ⟨((-2147483648), 2147483647), fun i => rfl, by decide, by decide⟩
  | 67, _, _ => exact ⟨(0, 384), fun i => rfl, by decide, by decide⟩
  | 68, _, _ => exact ⟨((-1), 385), fun i => rfl, by decide, by decide⟩
  | 69, _, _ => exact ⟨(0, 384), fun i => rfl, by decide, by decide⟩
  | 70, _, _ => exact ⟨(0, 1), fun i => rfl, by decide, by decide⟩
  | 71, _, _ => exact ⟨(0, 1), fun i => rfl, by decide, by decide⟩
  | 72, _, _ => exact ⟨(0, 1), fun i => rfl, by decide, by decide⟩
  | 73, _, _ => exact ⟨((-1), 384), fun i => rfl, by decide, by decide⟩
  | 74, _, _ => exact ⟨(0, 268435456), fun i => rfl, by decide, by decide⟩
  | 75, _, _ => exact ⟨(0, 268435456), fun i => rfl, by decide, by decide⟩
  | 76, _, _ => exact ⟨((-9223372036854775808), 9223372036854775807), fun i => rfl, by decide, by decide⟩
  | 77, _, _ => exact ⟨((-9223372036854775808), 9223372036854775807), fun i => rfl, by decide, by decide⟩
  | 78, _, _ => exact ⟨((-9223372036854775808), 9223372036854775807), fun i => rfl, by decide, by decide⟩
  | 79, _, _ => exact ⟨((-2147483648), 2147483647), fun i => rfl, by decide, by decide⟩
  | 80, _, _ => exact ⟨((-1), 3), fun i => rfl, by decide, by decide⟩
  | 81, _, _ => exact ⟨(0, 40), fun i => rfl, by decide, by decide⟩
  | 82, _, _ => exact ⟨((-9223372036854775808), 9223372036854775807), fun i => rfl, by decide, by decide⟩
  | k + 83, h, _ => exact absurd h (by omega)
theorem ck_b {k : Nat} {sh : xS} {c : mx_C} (hk : k < 83) (h : ck k sh c = true) (i : Int) : (bd k i).1 ≤ zc k c i ∧ zc k c i ≤ (bd k i).2 := by
  unfold ck at h
  split at h
  · rename_i ci ks c2 fs
    rw [Bool.and_eq_true, Bool.and_eq_true, Bool.and_eq_true, Bool.and_eq_true] at h
    obtain ⟨h1, h2, h3, h5, h4⟩ := h
    have hb := bd_fO k hk h3
    show (bd k i).1 ≤ dzo (mx_nth fs i.toNat) ∧ dzo (mx_nth fs i.toNat) ≤ (bd k i).2
    by_cases hi : i.toNat < fs.length
    · have q := allN_ok h4 i.toNat hi
      rw [Bool.and_eq_true, lk_nat] at q
      rw [hb]; exact ⟨of_decide_eq_true q.1, of_decide_eq_true q.2⟩
    · rw [hb, lk_big (by have := Nat.ble_eq.mp h5; omega), mx_nth_eq, List.getElem?_eq_none (by omega)]
      exact ⟨by decide, by decide⟩
  · rename_i ty len t ty2 len2 T
    rw [Bool.and_eq_true, Bool.and_eq_true, Bool.and_eq_true, Bool.and_eq_true] at h
    obtain ⟨h1, h2, h3, h5, h4⟩ := h
    have e2 := Nat.eq_of_beq_eq_true h2
    subst e2
    obtain ⟨q, hb, d1, d2⟩ := bd_fA k hk (by cases hq : isO k with | true => rw [hq] at h5; cases h5 | false => rfl)
    rw [hb] at h4 ⊢
    show q.1 ≤ (if 0 ≤ i ∧ i < (len : Int) then dz (mx_get 13 T i.toNat) else df k) ∧ (if 0 ≤ i ∧ i < (len : Int) then dz (mx_get 13 T i.toNat) else df k) ≤ q.2
    split
    · rename_i hi
      exact (lf_ok (allL_get 13 T len i.toNat h4 (by omega))).2
    · exact ⟨d1, d2⟩
  · cases h
noncomputable def zer (c : mx_C) : Bool := match c with
  | .inl _ => false
  | .inr (_, len, T) => allL (fun v => lf 0 0 0 v) 13 T len
noncomputable def c4 (k : Nat) : mx_C := mx_get 12 h_4.2.2 k
def zers : List Nat := [5, 14, 15, 16, 41, 60, 66]
def relz : List (Nat × Int × Int) := [(1, 1, 0), (52, 5, 0), (54, 5, 0), (44, 1, 0), (44, 2, 0), (44, 3, 1), (46, 1, 0), (46, 2, 0), (46, 3, 1), (48, 1, 0), (48, 2, 0), (48, 3, 1), (50, 1, 0), (50, 2, 0), (50, 3, 1), (56, 5, 0), (58, 0, 0), (58, 1, 0), (80, 0, -1), (81, 0, 0), (80, 1, -1), (81, 1, 0), (80, 2, -1), (81, 2, 0), (80, 3, -1), (81, 3, 0), (1, 2, 0), (1, 3, -1), (56, 13, 0), (56, 14, -1), (36, 1, 1), (57, 1, 1), (7, 4, 1), (7, 5, 1), (10, 0, 1), (9, 0, 1), (61, 0, 1), (61, 1, 0), (61, 2, 0), (61, 3, 0), (61, 4, 0), (61, 5, 0), (61, 6, 0), (61, 7, 0), (61, 8, 0), (61, 9, 0), (61, 10, 0), (61, 11, 0), (61, 12, 0), (61, 13, 0), (61, 14, 0), (61, 15, 0), (61, 16, 0), (61, 17, 0)]
noncomputable def num8 (c : mx_C) : Bool := match c with
  | .inl _ => false
  | .inr (_, len, T) => Nat.beq len 361 && allN (fun j => decide (dz (mx_get 13 T j) = wy (j : Int))) 361
noncomputable def num57 (c : mx_C) : Bool := match c with
  | .inl _ => false
  | .inr (_, len, T) => Nat.beq len 2886 && allN (fun j => bif Nat.beq j 1 then decide (dz (mx_get 13 T j) = 1) else decide (dz (mx_get 13 T j) = 0)) 2886
noncomputable def numR (a n : Nat) (c : mx_C) : Bool := match c with
  | .inl _ => false
  | .inr (_, len, T) => Nat.beq len n && allN (fun j => decide (dz (mx_get 13 T j) = (a : Int) + 2 * (j : Int))) n
set_option maxRecDepth 1000000 in
set_option maxHeartbeats 8000000 in
theorem st_all : (isv (tev 88 [.ref 1] h_1) && (isv (tev 155 [.ref 56] h_3) && (decide (h_2.1 = 56) && (decide (h_4.1 = 83) && (decide (h_4.2.1 ≤ 1000000) && (allN (fun k => ck k (sh0 k) (c4 k)) 83 && (zers.all (fun k => zer (c4 k)) && (num8 (c4 8) && (num57 (c4 57) && (numR 44 4 (c4 34) && (numR 52 2 (c4 35) &&
  (decide (Z0 7 5 = 1) && (decide (Z0 10 0 = 1) && (decide (Z0 9 0 = 1) && (decide (Z0 56 18 = 1) && (decide (Z0 36 0 = 37) && (decide (Z0 38 0 = 39) && (decide (Z0 52 0 = 53) && (decide (Z0 54 0 = 55) && (decide (Z0 12 1 = 37) && (decide (Z0 3 8 = 0) && (decide (Z0 3 9 = 0) && ([13, 37, 39, 53, 55].all (fun r => decide (Z0 r 0 = 0) && (decide (Z0 r 1 = 0) && decide (Z0 r 2 = 0))) && (decide (Z0 1 1 = 0) && relz.all (fun q => decide (Z0 q.1 q.2.1 = q.2.2)))))))))))))))))))))))))) = true := by decide +kernel
theorem zer_ok {k : Nat} {c : mx_C} (h : zer c = true) (hd : df k = 0) (i : Int) : zc k c i = 0 := by
  unfold zer at h
  split at h
  · cases h
  · rename_i ty len T
    show (if 0 ≤ i ∧ i < (len : Int) then dz (mx_get 13 T i.toNat) else df k) = 0
    split
    · rename_i hi; have q := (lf_ok (allL_get (p := fun v => lf 0 0 0 v) 13 T len i.toNat h (by omega))).2; omega
    · exact hd
theorem Z0_c {k : Nat} (hk : k < 83) (i : Int) : Z0 k i = zc k (c4 k) i := if_pos hk
theorem num8_ok {c : mx_C} (h : num8 c = true) (i : Int) (h0 : 0 ≤ i) (h1 : i ≤ 360) : zc 8 c i = wy i := by
  unfold num8 at h
  split at h
  · cases h
  · rename_i ty len T
    rw [Bool.and_eq_true] at h
    have e := Nat.eq_of_beq_eq_true h.1
    subst e
    show (if 0 ≤ i ∧ i < ((361 : Nat) : Int) then dz (mx_get 13 T i.toNat) else df 8) = wy i
    rw [if_pos ⟨h0, by omega⟩]
    have q := of_decide_eq_true (allN_ok h.2 i.toNat (by omega))
    rw [Int.toNat_of_nonneg h0] at q
    exact q
theorem num57_ok {c : mx_C} (h : num57 c = true) (i : Int) : zc 57 c i = if i = 1 then 1 else 0 := by
  unfold num57 at h
  split at h
  · cases h
  · rename_i ty len T
    rw [Bool.and_eq_true] at h
    have e := Nat.eq_of_beq_eq_true h.1
    subst e
    show (if 0 ≤ i ∧ i < ((2886 : Nat) : Int) then dz (mx_get 13 T i.toNat) else df 57) = _
    by_cases hi : 0 ≤ i ∧ i < ((2886 : Nat) : Int)
    · rw [if_pos hi]
      have q := allN_ok h.2 i.toNat (by omega)
      by_cases h1 : i = 1
      · subst h1; rw [if_pos rfl]; exact of_decide_eq_true q
      · rw [if_neg h1]
        rw [show Nat.beq i.toNat 1 = false from Bool.eq_false_iff.mpr (fun w => h1 (by have := Nat.eq_of_beq_eq_true w; omega))] at q
        exact of_decide_eq_true q
    · rw [if_neg hi, if_neg (by omega)]; rfl
theorem numR_ok {k a n : Nat} {c : mx_C} (h : numR a n c = true) (i : Int) (h0 : 0 ≤ i) (h1 : i < ((n : Nat) : Int)) : zc k c i = (a : Int) + 2 * i := by
  unfold numR at h
  split at h
  · cases h
  · rename_i ty len T
    rw [Bool.and_eq_true] at h
    have e := Nat.eq_of_beq_eq_true h.1
    subst e
    show (if 0 ≤ i ∧ i < ((len : Nat) : Int) then dz (mx_get 13 T i.toNat) else df k) = _
    rw [if_pos ⟨h0, h1⟩]
    have q := of_decide_eq_true (allN_ok h.2 i.toNat (by omega))
    rw [Int.toNat_of_nonneg h0] at q
    exact q
set_option maxRecDepth 100000 in
theorem ex_0 (hz : ∀ k, k ∈ zers → zer (c4 k) = true) (z8 : num8 (c4 8) = true) (z57 : num57 (c4 57) = true) (z34 : numR 44 4 (c4 34) = true) (z35 : numR 52 2 (c4 35) = true) : ∀ k i, ex k i (Z0 k i) := by
  intro k i
  by_cases hk : k < 83
  · match k, hk with
    | 0, _ => exact trivial
    | 1, _ => exact trivial
    | 2, _ => exact trivial
    | 3, _ => exact trivial
    | 4, _ => exact trivial
    | 5, _ =>
      rw [Z0_c (by decide), zer_ok (k := 5) (hz 5 (by decide)) rfl]
      show ((0 : Int) ≤ 1004 ∨ 1010 ≤ (0 : Int))
      first | omega | (unfold f60; omega)
    | 6, _ => exact trivial
    | 7, _ => exact trivial
    | 8, _ =>
      rw [Z0_c (by decide)]
      exact fun a b => num8_ok z8 i a b
    | 9, _ => exact trivial
    | 10, _ => exact trivial
    | 11, _ => exact trivial
    | 12, _ => exact trivial
    | 13, _ => exact trivial
    | 14, _ =>
      rw [Z0_c (by decide), zer_ok (k := 14) (hz 14 (by decide)) rfl]
      show (0 : Int) % 1024 ≤ 385
      first | omega | (unfold f60; omega)
    | 15, _ =>
      rw [Z0_c (by decide), zer_ok (k := 15) (hz 15 (by decide)) rfl]
      show (0 : Int) % 1024 ≤ 385
      first | omega | (unfold f60; omega)
    | 16, _ =>
      rw [Z0_c (by decide), zer_ok (k := 16) (hz 16 (by decide)) rfl]
      show ((0 : Int) ≤ i → (0 : Int) % 32 ≤ i / 342)
      first | omega | (unfold f60; omega)
    | 17, _ => exact trivial
    | 18, _ => exact trivial
    | 19, _ => exact trivial
    | 20, _ => exact trivial
    | 21, _ => exact trivial
    | 22, _ => exact trivial
    | 23, _ => exact trivial
    | 24, _ => exact trivial
    | 25, _ => exact trivial
    | 26, _ => exact trivial
    | 27, _ => exact trivial
    | 28, _ => exact trivial
    | 29, _ => exact trivial
    | 30, _ => exact trivial
    | 31, _ => exact trivial
    | 32, _ => exact trivial
    | 33, _ => exact trivial
    | 34, _ =>
      rw [Z0_c (by decide)]
      exact fun a b => numR_ok z34 i a (by omega)
    | 35, _ =>
      rw [Z0_c (by decide)]
      exact fun a b => numR_ok z35 i a (by omega)
    | 36, _ => exact trivial
    | 37, _ => exact trivial
    | 38, _ => exact trivial
    | 39, _ => exact trivial
    | 40, _ => exact trivial
    | 41, _ =>
      rw [Z0_c (by decide), zer_ok (k := 41) (hz 41 (by decide)) rfl]
      show (((i : Int) % 3 = 0 → 0 ≤ (0 : Int) ∧ (0 : Int) ≤ 384) ∧ ((i : Int) % 3 = 1 → 0 ≤ (0 : Int) ∧ (0 : Int) ≤ 9))
      first | omega | (unfold f60; omega)
    | 42, _ => exact trivial
    | 43, _ => exact trivial
    | 44, _ => exact trivial
    | 45, _ => exact trivial
    | 46, _ => exact trivial
    | 47, _ => exact trivial
    | 48, _ => exact trivial
    | 49, _ => exact trivial
    | 50, _ => exact trivial
    | 51, _ => exact trivial
    | 52, _ => exact trivial
    | 53, _ => exact trivial
    | 54, _ => exact trivial
    | 55, _ => exact trivial
    | 56, _ => exact trivial
    | 57, _ =>
      rw [Z0_c (by decide), num57_ok z57]
      show f57 (i % 962) (if i = 1 then 1 else 0)
      unfold f57
      split <;> omega
    | 58, _ => exact trivial
    | 59, _ => exact trivial
    | 60, _ =>
      rw [Z0_c (by decide), zer_ok (k := 60) (hz 60 (by decide)) rfl]
      show f60 ((i) % 962) ((0 : Int))
      first | omega | (unfold f60; omega)
    | 61, _ => exact trivial
    | 62, _ => exact trivial
    | 63, _ => exact trivial
    | 64, _ => exact trivial
    | 65, _ => exact trivial
    | 66, _ =>
      rw [Z0_c (by decide), zer_ok (k := 66) (hz 66 (by decide)) rfl]
      show (((i : Int) = 0 → 0 ≤ (0 : Int) ∧ (0 : Int) ≤ 384) ∧ ((i : Int) = 1 → 0 ≤ (0 : Int) ∧ (0 : Int) ≤ 9))
      first | omega | (unfold f60; omega)
    | 67, _ => exact trivial
    | 68, _ => exact trivial
    | 69, _ => exact trivial
    | 70, _ => exact trivial
    | 71, _ => exact trivial
    | 72, _ => exact trivial
    | 73, _ => exact trivial
    | 74, _ => exact trivial
    | 75, _ => exact trivial
    | 76, _ => exact trivial
    | 77, _ => exact trivial
    | 78, _ => exact trivial
    | 79, _ => exact trivial
    | 80, _ => exact trivial
    | 81, _ => exact trivial
    | 82, _ => exact trivial
    | k + 83, h => exact absurd h (by omega)
  · exact ex_hi (by omega)
theorem c4_Z {k : Nat} : c4 k = mx_get 12 h_4.2.2 k := rfl
set_option maxRecDepth 100000 in
theorem st_ok : tev 88 [.ref 1] h_1 = some (none, h_2) ∧ tev 155 [.ref 56] h_3 = some (none, h_4) ∧ h_2.1 = 56 ∧ h_4.1 = 83 ∧ h_4.2.1 ≤ 1000000 ∧ XH 83 h_4.2.1 S0 Z0 h_4 ∧ GI 83 S0 Z0 ∧ Z0 1 1 = 0 ∧ RL Z0 := by
  have h := st_all
  simp only [Bool.and_eq_true] at h
  obtain ⟨v1, v2, n2, n4, s4, sh, zr, z8, z57, z34, z35, q75, q100, q90, q5618, q36, q38, q52, q54, q12, q38b, q39, qL, q11, qR⟩ := h
  have hx : XH 83 h_4.2.1 S0 Z0 h_4 := by
    refine ⟨of_decide_eq_true n4, rfl, by decide, fun k hk => ?_⟩
    rw [show S0 k = sh0 k from if_pos hk, show Z0 k = zc k (c4 k) from funext fun i => Z0_c hk i]
    exact ck_R (allN_ok sh k hk)
  have hz : ∀ k, k ∈ zers → zer (c4 k) = true := fun k hk => List.all_eq_true.mp zr k hk
  have eL : ∀ r, r ∈ [13, 37, 39, 53, 55] → (Z0 r 0 = 0 ∧ Z0 r 1 = 0 ∧ Z0 r 2 = 0) := fun r hr => by
    have q := List.all_eq_true.mp qL r hr
    rw [Bool.and_eq_true, Bool.and_eq_true] at q
    exact ⟨of_decide_eq_true q.1, of_decide_eq_true q.2.1, of_decide_eq_true q.2.2⟩
  have hRL : RL Z0 := by
    have e : ∀ q, q ∈ relz → Z0 q.1 q.2.1 = q.2.2 := fun q hq => of_decide_eq_true (List.all_eq_true.mp qR q hq)
    have e0 : Z0 1 1 = 0 := e (1, 1, 0) (by decide)
    have e1 : Z0 52 5 = 0 := e (52, 5, 0) (by decide)
    have e2 : Z0 54 5 = 0 := e (54, 5, 0) (by decide)
    have e3 : Z0 44 1 = 0 := e (44, 1, 0) (by decide)
    have e4 : Z0 44 2 = 0 := e (44, 2, 0) (by decide)
    have e5 : Z0 44 3 = 1 := e (44, 3, 1) (by decide)
    have e6 : Z0 46 1 = 0 := e (46, 1, 0) (by decide)
    have e7 : Z0 46 2 = 0 := e (46, 2, 0) (by decide)
    have e8 : Z0 46 3 = 1 := e (46, 3, 1) (by decide)
    have e9 : Z0 48 1 = 0 := e (48, 1, 0) (by decide)
    have e10 : Z0 48 2 = 0 := e (48, 2, 0) (by decide)
    have e11 : Z0 48 3 = 1 := e (48, 3, 1) (by decide)
    have e12 : Z0 50 1 = 0 := e (50, 1, 0) (by decide)
    have e13 : Z0 50 2 = 0 := e (50, 2, 0) (by decide)
    have e14 : Z0 50 3 = 1 := e (50, 3, 1) (by decide)
    have e15 : Z0 56 5 = 0 := e (56, 5, 0) (by decide)
    have e16 : Z0 58 0 = 0 := e (58, 0, 0) (by decide)
    have e17 : Z0 58 1 = 0 := e (58, 1, 0) (by decide)
    have e18 : Z0 80 0 = -1 := e (80, 0, -1) (by decide)
    have e19 : Z0 81 0 = 0 := e (81, 0, 0) (by decide)
    have e20 : Z0 80 1 = -1 := e (80, 1, -1) (by decide)
    have e21 : Z0 81 1 = 0 := e (81, 1, 0) (by decide)
    have e22 : Z0 80 2 = -1 := e (80, 2, -1) (by decide)
    have e23 : Z0 81 2 = 0 := e (81, 2, 0) (by decide)
    have e24 : Z0 80 3 = -1 := e (80, 3, -1) (by decide)
    have e25 : Z0 81 3 = 0 := e (81, 3, 0) (by decide)
    have e26 : Z0 1 2 = 0 := e (1, 2, 0) (by decide)
    have e27 : Z0 1 3 = -1 := e (1, 3, -1) (by decide)
    have e28 : Z0 56 13 = 0 := e (56, 13, 0) (by decide)
    have e29 : Z0 56 14 = -1 := e (56, 14, -1) (by decide)
    have e30 : Z0 36 1 = 1 := e (36, 1, 1) (by decide)
    have e31 : Z0 57 1 = 1 := e (57, 1, 1) (by decide)
    have e32 : Z0 7 4 = 1 := e (7, 4, 1) (by decide)
    have e33 : Z0 7 5 = 1 := e (7, 5, 1) (by decide)
    have e34 : Z0 10 0 = 1 := e (10, 0, 1) (by decide)
    have e35 : Z0 9 0 = 1 := e (9, 0, 1) (by decide)
    have e36 : Z0 61 0 = 1 := e (61, 0, 1) (by decide)
    have e37 : Z0 61 1 = 0 := e (61, 1, 0) (by decide)
    have e38 : Z0 61 2 = 0 := e (61, 2, 0) (by decide)
    have e39 : Z0 61 3 = 0 := e (61, 3, 0) (by decide)
    have e40 : Z0 61 4 = 0 := e (61, 4, 0) (by decide)
    have e41 : Z0 61 5 = 0 := e (61, 5, 0) (by decide)
    have e42 : Z0 61 6 = 0 := e (61, 6, 0) (by decide)
    have e43 : Z0 61 7 = 0 := e (61, 7, 0) (by decide)
    have e44 : Z0 61 8 = 0 := e (61, 8, 0) (by decide)
    have e45 : Z0 61 9 = 0 := e (61, 9, 0) (by decide)
    have e46 : Z0 61 10 = 0 := e (61, 10, 0) (by decide)
    have e47 : Z0 61 11 = 0 := e (61, 11, 0) (by decide)
    have e48 : Z0 61 12 = 0 := e (61, 12, 0) (by decide)
    have e49 : Z0 61 13 = 0 := e (61, 13, 0) (by decide)
    have e50 : Z0 61 14 = 0 := e (61, 14, 0) (by decide)
    have e51 : Z0 61 15 = 0 := e (61, 15, 0) (by decide)
    have e52 : Z0 61 16 = 0 := e (61, 16, 0) (by decide)
    have e53 : Z0 61 17 = 0 := e (61, 17, 0) (by decide)
    have hz : ∀ k : Int, 1 ≤ k → k < 18 → Z0 61 k = 0 := hz17 e37 e38 e39 e40 e41 e42 e43 e44 e45 e46 e47 e48 e49 e50 e51 e52 e53
    have r1 : RL1 Z0 := ⟨e0.trans e15.symm, e26.trans e28.symm, e27.trans e29.symm, fun i i0 i1 => absurd i1 (by rw [e0]; omega)⟩
    have r2 : RL2 Z0 := ⟨e30.trans e31.symm, by rw [e30]; decide, by rw [e30]; exact ctb_i e32 e33 e34 e35, by rw [e31]; exact rtb_i e36 hz⟩
    have r3 : RL3 Z0 := ⟨e1.trans e16.symm, e2.trans e17.symm, fun q => absurd e1 q, fun q => absurd e2 q⟩
    have r4 : RL4 Z0 := ⟨⟨e18.trans (by rw [e3, e5]; rfl), e19.trans e4.symm, by rw [e3, e5]; decide, fun q => absurd (e5.symm.trans q) (by decide)⟩, ⟨e20.trans (by rw [e6, e8]; rfl), e21.trans e7.symm, by rw [e6, e8]; decide, fun q => absurd (e8.symm.trans q) (by decide)⟩, ⟨e22.trans (by rw [e9, e11]; rfl), e23.trans e10.symm, by rw [e9, e11]; decide, fun q => absurd (e11.symm.trans q) (by decide)⟩, ⟨e24.trans (by rw [e12, e14]; rfl), e25.trans e13.symm, by rw [e12, e14]; decide, fun q => absurd (e14.symm.trans q) (by decide)⟩⟩
    exact ⟨r1, r2, r3, r4⟩
  have r0 : rC 83 S0 0 := ⟨0, 0, rfl, Or.inl rfl, by decide, by decide, rfl⟩
  have hr : ∀ (r : Nat), (r = 13 ∨ r = 37 ∨ r = 39 ∨ r = 53 ∨ r = 55) → rL 83 S0 (r : Int) := fun r hr => by
    rcases hr with e | e | e | e | e <;> subst e
    · exact ⟨13, rfl, by unfold okL; omega, by decide, rfl⟩
    · exact ⟨37, rfl, by unfold okL; omega, by decide, rfl⟩
    · exact ⟨39, rfl, by unfold okL; omega, by decide, rfl⟩
    · exact ⟨53, rfl, by unfold okL; omega, by decide, rfl⟩
    · exact ⟨55, rfl, by unfold okL; omega, by decide, rfl⟩
  have e57 : ∀ i, Z0 57 i = if i = 1 then 1 else 0 := fun i => by rw [Z0_c (by decide)]; exact num57_ok z57 i
  refine ⟨isv_ok v1, isv_ok v2, of_decide_eq_true n2, of_decide_eq_true n4, of_decide_eq_true s4, hx, ⟨⟨by decide, fun k hk => if_pos (Nat.ble_eq.mp hk), fun k i => ?_, ex_0 hz z8 z57 z34 z35, ⟨fun c len o a e i i0 i1 => ?_, fun r o a e => ?_, ⟨?_, ?_, ?_, ?_, ?_⟩, ?_, ?_⟩⟩, ?_, ?_, ?_⟩, of_decide_eq_true q11, hRL⟩
  · by_cases hk : k < 83
    · rw [Z0_c hk]; exact ck_b hk (allN_ok sh k hk) i
    · rw [bd_hi (by omega), show Z0 k i = 0 from if_neg hk]; exact ⟨by decide, by decide⟩
  · rcases o with o | o
    · subst o
      have e : sh0 0 = .inr (.int, len, 0) := e
      have e0 : sh0 0 = .inr (.int, 0, 0) := rfl
      rw [e0] at e
      cases e
      exact absurd i1 (by omega)
    · exact absurd a (by omega)
  · have hr5 : r ∈ [13, 37, 39, 53, 55] := by
      rcases o with o | o | o | o | o | o
      · subst o; decide
      · subst o; decide
      · subst o; decide
      · subst o; decide
      · subst o; decide
      · exact absurd a (by omega)
    obtain ⟨e0, e1, e2⟩ := eL r hr5
    rw [e0, e1, e2]
    exact ⟨r0, r0, by decide, by decide⟩
  · rw [of_decide_eq_true q36]; exact hr 37 (by omega)
  · rw [of_decide_eq_true q38]; exact hr 39 (by omega)
  · rw [of_decide_eq_true q52]; exact hr 53 (by omega)
  · rw [of_decide_eq_true q54]; exact hr 55 (by omega)
  · rw [of_decide_eq_true q12]; exact hr 37 (by omega)
  · rw [of_decide_eq_true q38b]; exact r0
  · rw [of_decide_eq_true q39]; exact r0
  · intro t p t0 t1 p0 p1
    have e75 := of_decide_eq_true q75
    have e10 := of_decide_eq_true q100
    have e9 := of_decide_eq_true q90
    have ht : t = 0 := by omega
    subst ht
    have hp : p = 0 ∨ p = 1 := by omega
    rcases hp with hp | hp <;> subst hp
    · refine ⟨by rw [ps_0]; decide, fun _ => ?_⟩
      show 1 ≤ Z0 9 0
      omega
    · refine ⟨?_, fun q => absurd q (by omega)⟩
      have q1 := ps_s (Z := Z0) (t := 0) (p := 0) (by decide)
      have q2 : ps Z0 0 0 = 0 := ps_0
      have q3 : Z0 9 (0 * 18 + 0) = Z0 9 0 := rfl
      show ps Z0 0 (0 + 1) ≤ 18
      omega
  · have hw : ∀ f : Int → Int, (∀ w : Int, (w = 0 ∨ w = 1) → ¬ f (21 + w) = 1) → wfb f := fun f hf w hw e => absurd e (hf w hw)
    refine ⟨hw _ (fun w hw => ?_), hw _ (fun w hw => ?_), hw _ (fun w hw => ?_)⟩
    · show ¬ Z0 57 (21 + w) = 1
      rw [e57, if_neg (by omega)]; decide
    · show ¬ Z0 57 (962 + (21 + w)) = 1
      rw [e57, if_neg (by omega)]; decide
    · show ¬ Z0 57 (1924 + (21 + w)) = 1
      rw [e57, if_neg (by omega)]; decide
  · have w1 : wy (1 * 19 + 1) = 1 := by decide +kernel
    have w0 : wy (0 * 19 + 0) = 1 := by decide +kernel
    refine ⟨?_, fun r hr => ?_, fun r hr => ?_, fun r hr => ?_⟩
    · rw [e57 1, if_pos rfl, of_decide_eq_true q5618, w1]
    · show Z0 57 r < wy (Z0 57 1 * 19 + Z0 57 1)
      rw [e57 r, e57 1, if_pos rfl, if_neg (by omega), w1]; decide
    · show Z0 57 (962 + r) < wy (Z0 57 (962 + 1) * 19 + Z0 57 (962 + 1))
      rw [e57 (962 + r), e57 (962 + 1), if_neg (by omega), if_neg (by omega), w0]; decide
    · show Z0 57 (1924 + r) < wy (Z0 57 (1924 + 1) * 19 + Z0 57 (1924 + 1))
      rw [e57 (1924 + r), e57 (1924 + 1), if_neg (by omega), if_neg (by omega), w0]; decide
