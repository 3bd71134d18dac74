section RELJ
variable {B : mx_B} {M : mx_M} {d pc nx : Nat} {ls : mx_L} {rest : List Value} {h : mx_H} {Post : mx_R → Prop}
theorem Jl2iY {z : Int} (hs : mx_Sn B M pc (mx_l2i nx)) (hj : ∀ y, iI y → (y - z) % 4294967296 = 0 → mx_J B M d nx ls (xI y :: rest) h Post) : mx_J B M d pc ls (xL z :: rest) h Post :=
  Jl2i hs (Jnorm fun y hy hq => hj y hy (by obtain ⟨q, e⟩ := hq; omega))
theorem bm_8 (z : Int) : (z.bmod 256 - z) % 256 = 0 := by
  have h := @Int.bmod_def z 256
  split at h <;> omega
theorem bm_16 (z : Int) : (z.bmod 65536 - z) % 65536 = 0 := by
  have h := @Int.bmod_def z 65536
  split at h <;> omega
theorem Ji2bY {z : Int} (hs : mx_Sn B M pc (mx_i2b nx)) (hz : iI z) (hj : ∀ y, -128 ≤ y ∧ y ≤ 127 → (y - z) % 256 = 0 → mx_J B M d nx ls (xI y :: rest) h Post) : mx_J B M d pc ls (xI z :: rest) h Post := by
  have h1 := (Int32.ofInt z).toInt8.le_toInt
  have h2 := (Int32.ofInt z).toInt8.toInt_lt
  have hz1 : -2147483648 ≤ z ∧ z ≤ 2147483647 := hz
  have e : (Int32.ofInt z).toInt8.toInt = z.bmod 256 := by
    rw [Int32.toInt_toInt8, Int32.toInt_ofInt_of_le (by omega) (by omega)]
  refine mx_J.step hs (fun k call => (show k nx ls (.int (Int32.ofInt z).toInt8.toInt32 :: rest) h = k nx ls (xI (Int32.ofInt z).toInt8.toInt :: rest) h by rw [xI, Int32.ofInt_int8ToInt])) (hj _ ⟨by omega, by omega⟩ ?_)
  rw [e]; exact bm_8 z
theorem Ji2sY {z : Int} (hs : mx_Sn B M pc (mx_i2s nx)) (hz : iI z) (hj : ∀ y, -32768 ≤ y ∧ y ≤ 32767 → (y - z) % 65536 = 0 → mx_J B M d nx ls (xI y :: rest) h Post) : mx_J B M d pc ls (xI z :: rest) h Post := by
  have h1 := (Int32.ofInt z).toInt16.le_toInt
  have h2 := (Int32.ofInt z).toInt16.toInt_lt
  have hz1 : -2147483648 ≤ z ∧ z ≤ 2147483647 := hz
  have e : (Int32.ofInt z).toInt16.toInt = z.bmod 65536 := by
    rw [Int32.toInt_toInt16, Int32.toInt_ofInt_of_le (by omega) (by omega)]
  refine mx_J.step hs (fun k call => (show k nx ls (.int (Int32.ofInt z).toInt16.toInt32 :: rest) h = k nx ls (xI (Int32.ofInt z).toInt16.toInt :: rest) h by rw [xI, Int32.ofInt_int16ToInt])) (hj _ ⟨by omega, by omega⟩ ?_)
  rw [e]; exact bm_16 z
end RELJ
theorem nm_ref {Z Z' : xZ} {x0 x1 x2 : Int} (hw : (x0 < 0 ∨ 3 < x0 ∨ x1 < 0 ∨ 3 < x1) ∨ (x2 < 0 ∨ 40 < x2)) (h80 : ∀ t, Z' 80 t = Z 80 t) (h81 : ∀ t, Z' 81 t = Z 81 t) : (((x0 < 0 ∨ 3 < x0 ∨ x1 < 0 ∨ 3 < x1) ∨ (x2 < 0 ∨ 40 < x2) ∨ ¬ x0 = 0) → Z' 80 0 = Z 80 0 ∧ Z' 81 0 = Z 81 0) ∧ (¬ (x0 < 0 ∨ 3 < x0 ∨ x1 < 0 ∨ 3 < x1) → ¬ (x2 < 0 ∨ 40 < x2) → x0 = 0 → Z' 80 0 = x1 ∧ Z' 81 0 = x2) ∧ (((x0 < 0 ∨ 3 < x0 ∨ x1 < 0 ∨ 3 < x1) ∨ (x2 < 0 ∨ 40 < x2) ∨ ¬ x0 = 1) → Z' 80 1 = Z 80 1 ∧ Z' 81 1 = Z 81 1) ∧ (¬ (x0 < 0 ∨ 3 < x0 ∨ x1 < 0 ∨ 3 < x1) → ¬ (x2 < 0 ∨ 40 < x2) → x0 = 1 → Z' 80 1 = x1 ∧ Z' 81 1 = x2) ∧ (((x0 < 0 ∨ 3 < x0 ∨ x1 < 0 ∨ 3 < x1) ∨ (x2 < 0 ∨ 40 < x2) ∨ ¬ x0 = 2) → Z' 80 2 = Z 80 2 ∧ Z' 81 2 = Z 81 2) ∧ (¬ (x0 < 0 ∨ 3 < x0 ∨ x1 < 0 ∨ 3 < x1) → ¬ (x2 < 0 ∨ 40 < x2) → x0 = 2 → Z' 80 2 = x1 ∧ Z' 81 2 = x2) ∧ (((x0 < 0 ∨ 3 < x0 ∨ x1 < 0 ∨ 3 < x1) ∨ (x2 < 0 ∨ 40 < x2) ∨ ¬ x0 = 3) → Z' 80 3 = Z 80 3 ∧ Z' 81 3 = Z 81 3) ∧ (¬ (x0 < 0 ∨ 3 < x0 ∨ x1 < 0 ∨ 3 < x1) → ¬ (x2 < 0 ∨ 40 < x2) → x0 = 3 → Z' 80 3 = x1 ∧ Z' 81 3 = x2) := by
  refine ⟨fun _ => ⟨h80 _, h81 _⟩, fun a b _ => absurd hw (fun q => q.elim a b), fun _ => ⟨h80 _, h81 _⟩, fun a b _ => absurd hw (fun q => q.elim a b), fun _ => ⟨h80 _, h81 _⟩, fun a b _ => absurd hw (fun q => q.elim a b), fun _ => ⟨h80 _, h81 _⟩, fun a b _ => absurd hw (fun q => q.elim a b)⟩
theorem nm_ok {Z Z' : xZ} {x0 x1 x2 : Int} (h1 : ¬ (x0 < 0 ∨ 3 < x0 ∨ x1 < 0 ∨ 3 < x1)) (h2 : ¬ (x2 < 0 ∨ 40 < x2)) (a : Z' 80 x0 = x1) (b : Z' 81 x0 = x2) (u : ∀ t, ¬ t = x0 → Z' 80 t = Z 80 t) (v : ∀ t, ¬ t = x0 → Z' 81 t = Z 81 t) : (((x0 < 0 ∨ 3 < x0 ∨ x1 < 0 ∨ 3 < x1) ∨ (x2 < 0 ∨ 40 < x2) ∨ ¬ x0 = 0) → Z' 80 0 = Z 80 0 ∧ Z' 81 0 = Z 81 0) ∧ (¬ (x0 < 0 ∨ 3 < x0 ∨ x1 < 0 ∨ 3 < x1) → ¬ (x2 < 0 ∨ 40 < x2) → x0 = 0 → Z' 80 0 = x1 ∧ Z' 81 0 = x2) ∧ (((x0 < 0 ∨ 3 < x0 ∨ x1 < 0 ∨ 3 < x1) ∨ (x2 < 0 ∨ 40 < x2) ∨ ¬ x0 = 1) → Z' 80 1 = Z 80 1 ∧ Z' 81 1 = Z 81 1) ∧ (¬ (x0 < 0 ∨ 3 < x0 ∨ x1 < 0 ∨ 3 < x1) → ¬ (x2 < 0 ∨ 40 < x2) → x0 = 1 → Z' 80 1 = x1 ∧ Z' 81 1 = x2) ∧ (((x0 < 0 ∨ 3 < x0 ∨ x1 < 0 ∨ 3 < x1) ∨ (x2 < 0 ∨ 40 < x2) ∨ ¬ x0 = 2) → Z' 80 2 = Z 80 2 ∧ Z' 81 2 = Z 81 2) ∧ (¬ (x0 < 0 ∨ 3 < x0 ∨ x1 < 0 ∨ 3 < x1) → ¬ (x2 < 0 ∨ 40 < x2) → x0 = 2 → Z' 80 2 = x1 ∧ Z' 81 2 = x2) ∧ (((x0 < 0 ∨ 3 < x0 ∨ x1 < 0 ∨ 3 < x1) ∨ (x2 < 0 ∨ 40 < x2) ∨ ¬ x0 = 3) → Z' 80 3 = Z 80 3 ∧ Z' 81 3 = Z 81 3) ∧ (¬ (x0 < 0 ∨ 3 < x0 ∨ x1 < 0 ∨ 3 < x1) → ¬ (x2 < 0 ∨ 40 < x2) → x0 = 3 → Z' 80 3 = x1 ∧ Z' 81 3 = x2) := by
  have k : ∀ t : Int, ((x0 < 0 ∨ 3 < x0 ∨ x1 < 0 ∨ 3 < x1) ∨ (x2 < 0 ∨ 40 < x2) ∨ ¬ x0 = t) → Z' 80 t = Z 80 t ∧ Z' 81 t = Z 81 t := fun t q => by
    have e : ¬ t = x0 := fun e => q.elim h1 (fun q => q.elim h2 (fun q => q e.symm))
    exact ⟨u t e, v t e⟩
  have m : ∀ t : Int, x0 = t → Z' 80 t = x1 ∧ Z' 81 t = x2 := fun t e => by subst e; exact ⟨a, b⟩
  refine ⟨k 0, fun _ _ => m 0, k 1, fun _ _ => m 1, k 2, fun _ _ => m 2, k 3, fun _ _ => m 3⟩
