/-! bytes of a number; twenty bytes behind the tape -/
section BYa
theorem xb_n {z : Int} (hz : iI z) : (((Int32.ofInt z).toUInt32.toNat : Nat) : Int) = z % 4294967296 := by
  show (((BitVec.ofInt 32 z).toNat : Nat) : Int) = _
  rw [BitVec.toNat_ofInt]
  omega
theorem xb_y {w : UInt32} {y : Int} (e : w.toInt32 = Int32.ofInt y) : ((w.toNat : Nat) : Int) = y % 4294967296 := by
  have e2 : w.toInt32.toBitVec.toNat = (Int32.ofInt y).toBitVec.toNat := by rw [e]
  have e3 : w.toInt32.toBitVec.toNat = w.toNat := rfl
  have e4 : (Int32.ofInt y).toBitVec.toNat = (y % ((2 ^ 32 : Nat) : Int)).toNat := by
    show (BitVec.ofInt 32 y).toNat = _
    rw [BitVec.toNat_ofInt]
  rw [e3, e4] at e2
  omega
section BYr
variable {B : mx_B} {M : mx_M} {d pc nx : Nat} {ls : mx_L} {rest : List Value} {h : mx_H} {Post : mx_R → Prop}
theorem JiushrB24 {z : Int} (hs : mx_Sn B M pc (mx_iushr nx)) (hz : iI z) (hj : ∀ y, iI y → (y - z / 16777216) % 256 = 0 → mx_J B M d nx ls (xI y :: rest) h Post) : mx_J B M d pc ls (xI 24 :: xI z :: rest) h Post := by
  obtain ⟨y, hy, e⟩ := rg_I (((Int32.ofInt z).toUInt32 >>> ((Int32.ofInt 24).toUInt32 &&& Int32.toUInt32 31)).toInt32)
  refine mx_J.step hs (fun k call => (show k nx ls (.int (((Int32.ofInt z).toUInt32 >>> ((Int32.ofInt 24).toUInt32 &&& Int32.toUInt32 31)).toInt32) :: rest) h = _ by rw [e])) (hj y hy ?_)
  have a := xb_y e
  have b := xb_n hz
  rw [show ((Int32.ofInt 24).toUInt32 &&& Int32.toUInt32 31) = (24 : UInt32) by decide, UInt32.toNat_shiftRight] at a
  rw [show (Int32.ofInt z).toUInt32.toNat >>> ((24 : UInt32).toNat % 32) = (Int32.ofInt z).toUInt32.toNat / 16777216 from Nat.shiftRight_eq_div_pow _ _] at a
  omega
theorem JiushrB16 {z : Int} (hs : mx_Sn B M pc (mx_iushr nx)) (hz : iI z) (hj : ∀ y, iI y → (y - z / 65536) % 256 = 0 → mx_J B M d nx ls (xI y :: rest) h Post) : mx_J B M d pc ls (xI 16 :: xI z :: rest) h Post := by
  obtain ⟨y, hy, e⟩ := rg_I (((Int32.ofInt z).toUInt32 >>> ((Int32.ofInt 16).toUInt32 &&& Int32.toUInt32 31)).toInt32)
  refine mx_J.step hs (fun k call => (show k nx ls (.int (((Int32.ofInt z).toUInt32 >>> ((Int32.ofInt 16).toUInt32 &&& Int32.toUInt32 31)).toInt32) :: rest) h = _ by rw [e])) (hj y hy ?_)
  have a := xb_y e
  have b := xb_n hz
  rw [show ((Int32.ofInt 16).toUInt32 &&& Int32.toUInt32 31) = (16 : UInt32) by decide, UInt32.toNat_shiftRight] at a
  rw [show (Int32.ofInt z).toUInt32.toNat >>> ((16 : UInt32).toNat % 32) = (Int32.ofInt z).toUInt32.toNat / 65536 from Nat.shiftRight_eq_div_pow _ _] at a
  omega
theorem JiushrB8 {z : Int} (hs : mx_Sn B M pc (mx_iushr nx)) (hz : iI z) (hj : ∀ y, iI y → (y - z / 256) % 256 = 0 → mx_J B M d nx ls (xI y :: rest) h Post) : mx_J B M d pc ls (xI 8 :: xI z :: rest) h Post := by
  obtain ⟨y, hy, e⟩ := rg_I (((Int32.ofInt z).toUInt32 >>> ((Int32.ofInt 8).toUInt32 &&& Int32.toUInt32 31)).toInt32)
  refine mx_J.step hs (fun k call => (show k nx ls (.int (((Int32.ofInt z).toUInt32 >>> ((Int32.ofInt 8).toUInt32 &&& Int32.toUInt32 31)).toInt32) :: rest) h = _ by rw [e])) (hj y hy ?_)
  have a := xb_y e
  have b := xb_n hz
  rw [show ((Int32.ofInt 8).toUInt32 &&& Int32.toUInt32 31) = (8 : UInt32) by decide, UInt32.toNat_shiftRight] at a
  rw [show (Int32.ofInt z).toUInt32.toNat >>> ((8 : UInt32).toNat % 32) = (Int32.ofInt z).toUInt32.toNat / 256 from Nat.shiftRight_eq_div_pow _ _] at a
  omega
theorem JiushrB0 {z : Int} (hs : mx_Sn B M pc (mx_iushr nx)) (hz : iI z) (hj : ∀ y, iI y → (y - z) % 256 = 0 → mx_J B M d nx ls (xI y :: rest) h Post) : mx_J B M d pc ls (xI 0 :: xI z :: rest) h Post := by
  obtain ⟨y, hy, e⟩ := rg_I (((Int32.ofInt z).toUInt32 >>> ((Int32.ofInt 0).toUInt32 &&& Int32.toUInt32 31)).toInt32)
  refine mx_J.step hs (fun k call => (show k nx ls (.int (((Int32.ofInt z).toUInt32 >>> ((Int32.ofInt 0).toUInt32 &&& Int32.toUInt32 31)).toInt32) :: rest) h = _ by rw [e])) (hj y hy ?_)
  have a := xb_y e
  have b := xb_n hz
  rw [show ((Int32.ofInt 0).toUInt32 &&& Int32.toUInt32 31) = (0 : UInt32) by decide, UInt32.toNat_shiftRight] at a
  rw [show (Int32.ofInt z).toUInt32.toNat >>> ((0 : UInt32).toNat % 32) = (Int32.ofInt z).toUInt32.toNat / 1 from Nat.shiftRight_eq_div_pow _ _] at a
  omega
def btq (v r : Int) : Int := if r = 0 then v / 16777216 else if r = 1 then v / 65536 else if r = 2 then v / 256 else v
theorem btq_0 {v : Int} : btq v 0 = v / 16777216 := rfl
theorem btq_1 {v : Int} : btq v 1 = v / 65536 := rfl
theorem btq_2 {v : Int} : btq v 2 = v / 256 := rfl
theorem btq_3 {v : Int} : btq v 3 = v := rfl
theorem shrB {z q : Int} {k : Nat} {sv : Int32} (hz : iI z) (hk : sv.toBitVec.smod 32 = BitVec.ofNat 32 k) (hk2 : k < 32) (hq : q = ((2 ^ k : Nat) : Int)) (hr : iI (z / q)) : Int32.ofInt z >>> sv = Int32.ofInt (z / q) := by
  apply Int32.toInt_inj.mp
  rw [ti_I hr, hq]
  show ((Int32.ofInt z).toBitVec.sshiftRight' (sv.toBitVec.smod 32)).toInt = _
  rw [hk]
  show ((Int32.ofInt z).toBitVec.sshiftRight (BitVec.ofNat 32 k).toNat).toInt = _
  rw [BitVec.toInt_sshiftRight, BitVec.toNat_ofNat, Nat.mod_eq_of_lt (Nat.lt_of_lt_of_le hk2 (by decide))]
  rw [show (Int32.ofInt z).toBitVec.toInt = z from ti_I hz, Int.shiftRight_eq_div_pow]
theorem JishrB {z c r : Int} (hs : mx_Sn B M pc (mx_ishr nx)) (hz : iI z) (hr : 0 ≤ r ∧ r ≤ 3) (hc : c = 24 - 8 * r) (hj : mx_J B M d nx ls (xI (btq z r) :: rest) h Post) : mx_J B M d pc ls (xI c :: xI z :: rest) h Post := by
  subst hc
  have hz2 : -2147483648 ≤ z ∧ z ≤ 2147483647 := hz
  have e : Int32.ofInt z >>> (Int32.ofInt (24 - 8 * r) &&& 31) = Int32.ofInt (btq z r) := by
    have cs : r = 0 ∨ r = 1 ∨ r = 2 ∨ r = 3 := by omega
    rcases cs with q | q | q | q
    · subst q; rw [btq_0]; exact shrB (k := 24) hz (by decide) (by decide) (by decide) ⟨by omega, by omega⟩
    · subst q; rw [btq_1]; exact shrB (k := 16) hz (by decide) (by decide) (by decide) ⟨by omega, by omega⟩
    · subst q; rw [btq_2]; exact shrB (k := 8) hz (by decide) (by decide) (by decide) ⟨by omega, by omega⟩
    · subst q
      rw [btq_3]
      have := shrB (z := z) (q := 1) (k := 0) (sv := Int32.ofInt (24 - 8 * 3) &&& 31) hz (by decide) (by decide) (by decide) ⟨by omega, by omega⟩
      rw [Int.ediv_one] at this
      exact this
  exact mx_J.step hs (fun k call => (show k nx ls (.int (Int32.ofInt z >>> (Int32.ofInt (24 - 8 * r) &&& 31)) :: rest) h = _ by rw [e])) hj
end BYr
/-- which of five numbers, which of its bytes -/
def fsel (a b c d e j : Int) : Int := if j < 4 then a else if j < 8 then b else if j < 12 then c else if j < 16 then d else e
theorem fsl_0 {a b c d e j : Int} (h : j < 4) : a = fsel a b c d e j := (if_pos h).symm
theorem fsl_1 {a b c d e j : Int} (h : ¬ j < 4 ∧ j < 8) : b = fsel a b c d e j := ((if_neg h.1).trans (if_pos h.2)).symm
theorem fsl_2 {a b c d e j : Int} (h : ¬ j < 8 ∧ j < 12) : c = fsel a b c d e j := ((if_neg (by omega)).trans ((if_neg h.1).trans (if_pos h.2))).symm
theorem fsl_3 {a b c d e j : Int} (h : ¬ j < 12 ∧ j < 16) : d = fsel a b c d e j := ((if_neg (by omega)).trans ((if_neg (by omega)).trans ((if_neg h.1).trans (if_pos h.2)))).symm
theorem fsl_4 {a b c d e j : Int} (h : ¬ j < 16) : e = fsel a b c d e j := ((if_neg (by omega)).trans ((if_neg (by omega)).trans ((if_neg (by omega)).trans (if_neg h)))).symm
def fby (a b c d e j : Int) : Int := btq (fsel a b c d e j) (j % 4) % 256
/-- four bytes of a number from p on -/
def FI (Z Z' : xZ) (p v : Int) : Prop := (∀ i, i < p → Z' 2 i = Z 2 i) ∧ ∀ j, 0 ≤ j → j < 4 → Z' 2 (p + j) % 256 = btq v j % 256
theorem FI_mk {Z Z' : xZ} {p v : Int} (h : ∀ i, i < p → Z' 2 i = Z 2 i) (e0 : Z' 2 p % 256 = v / 16777216 % 256) (e1 : Z' 2 (p + 1) % 256 = v / 65536 % 256) (e2 : Z' 2 (p + 1 + 1) % 256 = v / 256 % 256) (e3 : Z' 2 (p + 1 + 1 + 1) % 256 = v % 256) : FI Z Z' p v := by
  refine ⟨h, fun j j0 j4 => ?_⟩
  have cs : j = 0 ∨ j = 1 ∨ j = 2 ∨ j = 3 := by omega
  rcases cs with q | q | q | q
  · subst q; rw [btq_0, Int.add_zero]; exact e0
  · subst q; rw [btq_1]; exact e1
  · subst q; rw [btq_2, show p + 2 = p + 1 + 1 by omega]; exact e2
  · subst q; rw [btq_3, show p + 3 = p + 1 + 1 + 1 by omega]; exact e3
/-- twenty bytes from p on, the elder as they were -/
def FB (Z Z' : xZ) (k : Nat) (p a b c d e : Int) : Prop := (∀ i, i < p → Z' k i = Z k i) ∧ ∀ j, 0 ≤ j → j < 20 → Z' k (p + j) % 256 = fby a b c d e j
theorem fb_5 {Z Z1 Z2 Z3 Z4 Z5 : xZ} {p p1 p2 p3 p4 a b c d e : Int} (h1 : FI Z Z1 p a) (h2 : FI Z1 Z2 p1 b) (h3 : FI Z2 Z3 p2 c) (h4 : FI Z3 Z4 p3 d) (h5 : FI Z4 Z5 p4 e) (e1 : p1 = p + 4) (e2 : p2 = p + 8) (e3 : p3 = p + 12) (e4 : p4 = p + 16) : FB Z Z5 2 p a b c d e := by
  subst e1 e2 e3 e4
  refine ⟨fun i hi => ?_, fun j j0 j20 => ?_⟩
  · rw [h5.1 i (by omega), h4.1 i (by omega), h3.1 i (by omega), h2.1 i (by omega), h1.1 i hi]
  · unfold fby
    by_cases c1 : j < 4
    · rw [← fsl_0 c1, h5.1 _ (by omega), h4.1 _ (by omega), h3.1 _ (by omega), h2.1 _ (by omega), h1.2 j j0 c1, show j % 4 = j by omega]
    · by_cases c2 : j < 8
      · rw [← fsl_1 ⟨c1, c2⟩, h5.1 _ (by omega), h4.1 _ (by omega), h3.1 _ (by omega), show p + j = p + 4 + (j - 4) by omega, h2.2 (j - 4) (by omega) (by omega), show j % 4 = j - 4 by omega]
      · by_cases c3 : j < 12
        · rw [← fsl_2 ⟨c2, c3⟩, h5.1 _ (by omega), h4.1 _ (by omega), show p + j = p + 8 + (j - 8) by omega, h3.2 (j - 8) (by omega) (by omega), show j % 4 = j - 8 by omega]
        · by_cases c4 : j < 16
          · rw [← fsl_3 ⟨c3, c4⟩, h5.1 _ (by omega), show p + j = p + 12 + (j - 12) by omega, h4.2 (j - 12) (by omega) (by omega), show j % 4 = j - 12 by omega]
          · rw [← fsl_4 c4, show p + j = p + 16 + (j - 16) by omega, h5.2 (j - 16) (by omega) (by omega), show j % 4 = j - 16 by omega]
/-- the reference's: k bytes of the twenty -/
def FG (Z Z' : xZ) (p k a b c d e : Int) : Prop := (∀ i, i < p → Z' 59 i = Z 59 i) ∧ ∀ j, 0 ≤ j → j < k → Z' 59 (p + j) = fby a b c d e j
theorem FG_0 {Z Z' : xZ} {p a b c d e : Int} (h : ∀ i, Z' 59 i = Z 59 i) : FG Z Z' p 0 a b c d e := ⟨fun i _ => h i, fun j a b => by omega⟩
theorem FG_s {Z Z1 Z2 Z3 : xZ} {p q k v a b c d e r : Int} {g y : Int} (h : FG Z Z1 p k a b c d e) (hE1 : Z2 = up Z1 59 q (btq v r % 256)) (hE2 : Z3 = up Z2 56 g y) (hq : q = p + k) (hr : r = k % 4) (hv : v = fsel a b c d e k) (k0 : 0 ≤ k) : FG Z Z3 p (k + 1) a b c d e := by
  subst hq hr hv
  refine ⟨fun i hi => ?_, fun j j0 jk => ?_⟩
  · rw [up_nk hE2 rfl, up_ni hE1 (by omega)]; exact h.1 i hi
  · by_cases ej : j = k
    · rw [ej, up_nk hE2 rfl, up_at hE1]; rfl
    · rw [up_nk hE2 rfl, up_ni hE1 (by omega)]; exact h.2 j j0 (by omega)
theorem FG_e {Z Z' : xZ} {p a b c d e : Int} (h : FG Z Z' p 20 a b c d e) : (∀ i, i < p → Z' 59 i = Z 59 i) ∧ ∀ j, 0 ≤ j → j < 20 → Z' 59 (p + j) = fby a b c d e j := h
def FBm (Z Z' : xZ) (p a b c d e : Int) : Prop := (∀ i, i < p → Z' 59 i = Z 59 i) ∧ ∀ j, 0 ≤ j → j < 20 → Z' 59 (p + j) = fby a b c d e j
end BYa
