section XK
variable {B : mx_B} {M : mx_M} {d pc nx tg : Nat} {ls ls2 : mx_L} {st rest : List Value} {h : mx_H} {Post : mx_R → Prop} {n s : Nat} {S : Nat → xS} {Z : xZ}
theorem Jscod {a : Nat} {L : List Int32} (hs : mx_Sn B M pc (mx_scod nx)) (hf : mx_sfd a = some L) (hj : mx_J B M d nx ls (xI 0 :: rest) h Post) : mx_J B M d pc ls (.ref a :: rest) h Post := by
  refine mx_J.step hs (fun k call => ?_) hj
  unfold mx_scod
  simp only [hf]
  rfl
theorem Jsalen {a : Nat} {L : List Int32} {z : Int} (hs : mx_Sn B M pc (mx_salen nx)) (hf : mx_sfd (a - 1) = some L) (hz : (L.length : Int) = z) (hj : mx_J B M d nx ls (xI z :: rest) h Post) : mx_J B M d pc ls (.ref a :: rest) h Post := by
  refine mx_J.step hs (fun k call => ?_) hj
  unfold mx_salen
  simp only [hf]
  rw [← hz, xI, Int32.ofInt_eq_ofNat]

set_option maxRecDepth 100000 in
theorem vsb_0 : ∀ q : Nat, q < 76 → (32 ≤ (sb_0.getD q 0).toInt ∧ (sb_0.getD q 0).toInt ≤ 122 ∧ ((sb_0.getD q 0).toInt = 32 ∨ q ≤ 10000)) := by decide +kernel
theorem Jsb_0 {a : Nat} {j : Int} (hs : mx_Sn B M pc (mx_sbald nx)) (hf : mx_sfd (a - 1) = some sb_0) (hb : 0 ≤ j ∧ j < 76) (hj : ∀ y, 32 ≤ y ∧ y ≤ 122 ∧ (y = 32 ∨ j ≤ 10000) → mx_J B M d nx ls (xI y :: rest) h Post) : mx_J B M d pc ls (xI j :: .ref a :: rest) h Post := by
  obtain ⟨c1, c2, c3, c4⟩ := cl_I (i := j) (len := 76) hb (by decide)
  have hv := vsb_0 j.toNat (by omega)
  have hlen : sb_0.length = 76 := rfl
  refine mx_J.step hs (fun k call => ?_) (hj (sb_0.getD j.toNat 0).toInt ⟨hv.1, hv.2.1, by omega⟩)
  unfold mx_sbald
  simp only [hf, c1, hlen, c3, cond_true, if_neg c2]
  rw [xI, Int32.ofInt_toInt]
set_option maxRecDepth 100000 in
theorem vsb_1 : ∀ q : Nat, q < 12 → (32 ≤ (sb_1.getD q 0).toInt ∧ (sb_1.getD q 0).toInt ≤ 122 ∧ ((sb_1.getD q 0).toInt = 32 ∨ q ≤ 10000)) := by decide +kernel
theorem Jsb_1 {a : Nat} {j : Int} (hs : mx_Sn B M pc (mx_sbald nx)) (hf : mx_sfd (a - 1) = some sb_1) (hb : 0 ≤ j ∧ j < 12) (hj : ∀ y, 32 ≤ y ∧ y ≤ 122 ∧ (y = 32 ∨ j ≤ 10000) → mx_J B M d nx ls (xI y :: rest) h Post) : mx_J B M d pc ls (xI j :: .ref a :: rest) h Post := by
  obtain ⟨c1, c2, c3, c4⟩ := cl_I (i := j) (len := 12) hb (by decide)
  have hv := vsb_1 j.toNat (by omega)
  have hlen : sb_1.length = 12 := rfl
  refine mx_J.step hs (fun k call => ?_) (hj (sb_1.getD j.toNat 0).toInt ⟨hv.1, hv.2.1, by omega⟩)
  unfold mx_sbald
  simp only [hf, c1, hlen, c3, cond_true, if_neg c2]
  rw [xI, Int32.ofInt_toInt]
set_option maxRecDepth 100000 in
theorem vsb_2 : ∀ q : Nat, q < 77 → (32 ≤ (sb_2.getD q 0).toInt ∧ (sb_2.getD q 0).toInt ≤ 122 ∧ ((sb_2.getD q 0).toInt = 32 ∨ q ≤ 75)) := by decide +kernel
theorem Jsb_2 {a : Nat} {j : Int} (hs : mx_Sn B M pc (mx_sbald nx)) (hf : mx_sfd (a - 1) = some sb_2) (hb : 0 ≤ j ∧ j < 77) (hj : ∀ y, 32 ≤ y ∧ y ≤ 122 ∧ (y = 32 ∨ j ≤ 75) → mx_J B M d nx ls (xI y :: rest) h Post) : mx_J B M d pc ls (xI j :: .ref a :: rest) h Post := by
  obtain ⟨c1, c2, c3, c4⟩ := cl_I (i := j) (len := 77) hb (by decide)
  have hv := vsb_2 j.toNat (by omega)
  have hlen : sb_2.length = 77 := rfl
  refine mx_J.step hs (fun k call => ?_) (hj (sb_2.getD j.toNat 0).toInt ⟨hv.1, hv.2.1, by omega⟩)
  unfold mx_sbald
  simp only [hf, c1, hlen, c3, cond_true, if_neg c2]
  rw [xI, Int32.ofInt_toInt]
theorem Jsio {i m : Int} (hs : mx_Sn B M pc (mx_sio nx)) (hi : 0 ≤ i ∧ i < m) (hm : iI m) (hd : ∃ d2, d = d2 + 1) (hl : Nat.ble (mx_cat rest) 8 = true) (hj : mx_J B M d nx ls rest h Post) : mx_J B M d pc ls (xI m :: xI i :: rest) h Post := by
  obtain ⟨d2, hd⟩ := hd
  have hii : iI i := by omega
  have c1 : ¬ Int32.ofInt i < 0 := by rw [z_I, lt_I hii (by decide)]; omega
  have c2 : Int32.ofInt i < Int32.ofInt m := (lt_I hii hm).mpr hi.2
  refine mx_J.call (mi := 0) (as := []) (r1 := (none, h)) (st2 := rest) hs (fun k call e2 => ?_) ⟨d2, hd, ⟨Nat.le_refl _, Nat.le_refl _⟩, fun z => absurd rfl z⟩ hj
  unfold mx_sio
  simp only [if_pos (And.intro c1 c2), hl, cond_true, e2]
theorem pI_nI {z : Int} (hz : 0 ≤ z) : Int32.ofInt z = nI z.toNat := by
  unfold nI
  rw [← Int32.ofInt_eq_ofNat, Int.toNat_of_nonneg hz]
theorem Ji2c {z : Int} (hs : mx_Sn B M pc (mx_i2c nx)) (hz : 0 ≤ z ∧ z ≤ 65535) (hj : mx_J B M d nx ls (xI z :: rest) h Post) : mx_J B M d pc ls (xI z :: rest) h Post := by
  have e : ((Int32.ofInt z).toUInt32 % 65536).toInt32 = Int32.ofInt z := by
    rw [pk_char, pI_nI hz.1, pk_tn (by omega), Nat.mod_eq_of_lt (by omega)]
  exact mx_J.step hs (fun k call => (show k nx ls (.int (((Int32.ofInt z).toUInt32 % 65536).toInt32) :: rest) h = _ by rw [e])) hj
theorem nr_ok_char {z : Int} {k : mx_K} {call : mx_F} (hz : 0 ≤ z ∧ z ≤ 65535) : mx_nret .char k call ls [xI z] h = some (some (xI z), h) := by
  unfold mx_nret
  simp only
  rw [if_pos (by show narrow .char (.int (Int32.ofInt z)) = .int (Int32.ofInt z); rw [pI_nI hz.1]; exact (pk_charN (by omega)).1)]
theorem nr_ok_byte {z : Int} {k : mx_K} {call : mx_F} (hz : z = 0 ∨ z = 1) : mx_nret .byte k call ls [xI z] h = some (some (xI z), h) := by
  unfold mx_nret
  simp only
  rw [if_pos]
  rcases hz with e | e <;> subst e <;> decide
theorem ushr16 (x : Int32) : ∃ y, (0 ≤ y ∧ y ≤ 65535) ∧ (x.toUInt32 >>> ((Int32.ofInt 16).toUInt32 &&& Int32.toUInt32 31)).toInt32 = Int32.ofInt y := by
  have hk : ((Int32.ofInt 16).toUInt32 &&& Int32.toUInt32 31) = (16 : UInt32) := by decide
  rw [hk]
  have hb : (x.toUInt32 >>> (16 : UInt32)).toNat = x.toUInt32.toNat / 65536 := by
    rw [UInt32.toNat_shiftRight]
    show x.toUInt32.toNat >>> 16 = _
    rw [Nat.shiftRight_eq_div_pow]
  have hlt : x.toUInt32.toNat < 4294967296 := x.toUInt32.toNat_lt
  refine ⟨((x.toUInt32 >>> (16 : UInt32)).toNat : Int), ⟨by omega, by omega⟩, ?_⟩
  apply Int32.toBitVec_inj.mp
  apply BitVec.eq_of_toNat_eq
  show (x.toUInt32 >>> (16 : UInt32)).toNat = (BitVec.ofInt 32 ((x.toUInt32 >>> (16 : UInt32)).toNat : Int)).toNat
  rw [BitVec.toNat_ofInt]
  omega
theorem Jiushr16 {x : Int32} (hs : mx_Sn B M pc (mx_iushr nx)) (hj : ∀ y, 0 ≤ y ∧ y ≤ 65535 → mx_J B M d nx ls (xI y :: rest) h Post) : mx_J B M d pc ls (xI 16 :: .int x :: rest) h Post := by
  obtain ⟨y, h1, e⟩ := ushr16 x
  exact mx_J.step hs (fun k call => (show k nx ls (.int ((x.toUInt32 >>> ((Int32.ofInt 16).toUInt32 &&& Int32.toUInt32 31)).toInt32) :: rest) h = _ by rw [e])) (hj y h1)
theorem Jishr0 {z b : Int} (hs : mx_Sn B M pc (mx_ishr nx)) (hb : b = 0) (hj : mx_J B M d nx ls (xI z :: rest) h Post) : mx_J B M d pc ls (xI b :: xI z :: rest) h Post := by
  subst hb
  have e : ∀ x : Int32, x >>> (Int32.ofInt 0 &&& 31) = x := fun x => by
    rw [show (Int32.ofInt 0 &&& 31) = (0 : Int32) from by decide]
    apply Int32.toBitVec_inj.mp
    show x.toBitVec.sshiftRight' ((0 : Int32).toBitVec.smod 32) = x.toBitVec
    rw [show ((0 : Int32).toBitVec.smod 32) = 0#32 from by decide]
    simp
  exact mx_J.step hs (fun k call => (show k nx ls (.int (Int32.ofInt z >>> (Int32.ofInt 0 &&& 31)) :: rest) h = _ by rw [e])) hj
theorem JiaddE {a b r : Int} (hs : mx_Sn B M pc (mx_iadd nx)) (e : a + b = r) (hj : mx_J B M d nx ls (xI r :: rest) h Post) : mx_J B M d pc ls (xI b :: xI a :: rest) h Post := Jiadd hs (by rw [e]; exact hj)
theorem JisubE {a b r : Int} (hs : mx_Sn B M pc (mx_isub nx)) (e : a - b = r) (hj : mx_J B M d nx ls (xI r :: rest) h Post) : mx_J B M d pc ls (xI b :: xI a :: rest) h Post := Jisub hs (by rw [e]; exact hj)
theorem JimulE {a b r : Int} (hs : mx_Sn B M pc (mx_imul nx)) (e : a * b = r) (hj : mx_J B M d nx ls (xI r :: rest) h Post) : mx_J B M d pc ls (xI b :: xI a :: rest) h Post := Jimul hs (by rw [e]; exact hj)
theorem Jior01 {a b : Int} (hs : mx_Sn B M pc (mx_ior nx)) (ha : a = 0 ∨ a = 1) (hb : b = 0 ∨ b = 1) (hj : ∀ y, 0 ≤ y ∧ y ≤ 1 ∧ (y = 0 → a = 0 ∧ b = 0) ∧ (y = 1 → a = 1 ∨ b = 1) → mx_J B M d nx ls (xI y :: rest) h Post) : mx_J B M d pc ls (xI b :: xI a :: rest) h Post := by
  have e : Int32.ofInt a ||| Int32.ofInt b = Int32.ofInt (if a = 1 ∨ b = 1 then 1 else 0) := by rcases ha with ha | ha <;> rcases hb with hb | hb <;> subst ha <;> subst hb <;> decide
  refine mx_J.step hs (fun k call => (show k nx ls (.int (Int32.ofInt a ||| Int32.ofInt b) :: rest) h = _ by rw [e])) (hj _ ?_)
  split <;> omega
theorem Jiand01 {a b : Int} (hs : mx_Sn B M pc (mx_iand nx)) (ha : a = 0 ∨ a = 1) (hb : b = 0 ∨ b = 1) (hj : ∀ y, 0 ≤ y ∧ y ≤ 1 ∧ (y = 1 → a = 1 ∧ b = 1) → mx_J B M d nx ls (xI y :: rest) h Post) : mx_J B M d pc ls (xI b :: xI a :: rest) h Post := by
  have e : Int32.ofInt a &&& Int32.ofInt b = Int32.ofInt (if a = 1 ∧ b = 1 then 1 else 0) := by rcases ha with ha | ha <;> rcases hb with hb | hb <;> subst ha <;> subst hb <;> decide
  refine mx_J.step hs (fun k call => (show k nx ls (.int (Int32.ofInt a &&& Int32.ofInt b) :: rest) h = _ by rw [e])) (hj _ ?_)
  split <;> omega
theorem Jck {mi nt b : Nat} {as : List Value} {v : Value} {h2 : mx_H} {L : List Int32} (hs : mx_Sn B M pc (mx_callk mi nt nx)) (hf : mx_sfd b = some L) (hca : mx_Ca B d mi (.ref b :: as) h (some v, h2)) (hst : (st.take nt).reverse = .ref b :: as) (hl : (Nat.beq as.length (nt - 1) && Nat.ble (mx_cat (st.drop nt)) 8) = true) (hr : st.drop nt = rest) (hj : mx_J B M d nx ls (v :: rest) h2 Post) : mx_J B M d pc ls st h Post := by
  subst hr
  refine mx_J.call (r1 := (some v, h2)) hs (fun k call e => ?_) hca hj
  unfold mx_callk
  simp only [hst, hf, hl, cond_true, e]
  rfl
theorem Jck0 {mi nt b : Nat} {as : List Value} {h2 : mx_H} {L : List Int32} (hs : mx_Sn B M pc (mx_callk mi nt nx)) (hf : mx_sfd b = some L) (hca : mx_Ca B d mi (.ref b :: as) h (none, h2)) (hst : (st.take nt).reverse = .ref b :: as) (hl : (Nat.beq as.length (nt - 1) && Nat.ble (mx_cat (st.drop nt)) 8) = true) (hr : st.drop nt = rest) (hj : mx_J B M d nx ls rest h2 Post) : mx_J B M d pc ls st h Post := by
  subst hr
  refine mx_J.call (r1 := (none, h2)) hs (fun k call e => ?_) hca hj
  unfold mx_callk
  simp only [hst, hf, hl, cond_true, e]
  rfl
theorem JlshrX {x : Int64} {y : Int32} (hs : mx_Sn B M pc (mx_lshr nx)) (hj : ∀ z, iL z → mx_J B M d nx ls (xL z :: rest) h Post) : mx_J B M d pc ls (.int y :: .long x :: rest) h Post := by
  obtain ⟨z, hz, e⟩ := rg_L (x >>> (y.toInt64 &&& 63))
  exact mx_J.step hs (fun k call => (show k nx ls (.long (x >>> (y.toInt64 &&& 63)) :: rest) h = _ by rw [e])) (hj z hz)
theorem JlandX {x y : Int64} (hs : mx_Sn B M pc (mx_land nx)) (hj : ∀ z, iL z → mx_J B M d nx ls (xL z :: rest) h Post) : mx_J B M d pc ls (.long y :: .long x :: rest) h Post := by
  obtain ⟨z, hz, e⟩ := rg_L (x &&& y)
  exact mx_J.step hs (fun k call => (show k nx ls (.long (x &&& y) :: rest) h = _ by rw [e])) (hj z hz)
theorem tm_f {a b : Int} (hb : ¬ b = 0) : ((0 < b → -b < a.tmod b ∧ a.tmod b < b) ∧ (b < 0 → b < a.tmod b ∧ a.tmod b < -b)) ∧ ((0 ≤ a → 0 ≤ a.tmod b ∧ a.tmod b ≤ a) ∧ (a ≤ 0 → a ≤ a.tmod b ∧ a.tmod b ≤ 0)) ∧ ((0 ≤ a → 0 < b → b ≤ a → a.tmod b ≤ a - b) ∧ (0 ≤ a → b < 0 → -b ≤ a → a.tmod b ≤ a + b) ∧ (a ≤ 0 → 0 < b → b ≤ -a → a + b ≤ a.tmod b) ∧ (a ≤ 0 → b < 0 → -b ≤ -a → a - b ≤ a.tmod b)) := by
  have key : ∀ x c : Int, 0 ≤ x → 0 < c → (0 ≤ x % c ∧ x % c < c ∧ x % c ≤ x ∧ (c ≤ x → x % c ≤ x - c)) := by
    intro x c hx hc
    have h1 := Int.emod_nonneg x (show c ≠ 0 by omega)
    have h2 := Int.emod_lt_of_pos x hc
    have h3 : x % c ≤ x := by
      by_cases hl : x < c
      · rw [Int.emod_eq_of_lt hx hl]; exact Int.le_refl _
      · omega
    refine ⟨h1, h2, h3, fun hcx => ?_⟩
    have h4 : (x - c) % c = x % c := Int.sub_emod_right x c
    rw [← h4]
    by_cases hl : x - c < c
    · rw [Int.emod_eq_of_lt (by omega) hl]; exact Int.le_refl _
    · have h5 := Int.emod_lt_of_pos (x - c) hc; omega
  have hp : ∀ x c : Int, 0 ≤ x → ¬ c = 0 → ((0 < c → x.tmod c = x % c) ∧ (c < 0 → x.tmod c = x % (-c))) := by
    intro x c hx hc
    rw [Int.tmod_eq_emod_of_nonneg hx]
    exact ⟨fun _ => rfl, fun _ => (Int.emod_neg x c).symm⟩
  by_cases ha : 0 ≤ a
  · have h := hp a b ha hb
    by_cases hb0 : 0 < b
    · rw [h.1 hb0]; have := key a b ha hb0; omega
    · rw [h.2 (by omega)]; have := key a (-b) ha (by omega); omega
  · have h := hp (-a) b (by omega) hb
    have e : a.tmod b = -((-a).tmod b) := by rw [Int.neg_tmod]; omega
    rw [e]
    by_cases hb0 : 0 < b
    · rw [h.1 hb0]; have := key (-a) b (by omega) hb0; omega
    · rw [h.2 (by omega)]; have := key (-a) (-b) (by omega) (by omega); omega
theorem JlremS {a b : Int} (hs : mx_Sn B M pc (mx_lrem nx)) (ha : iL a) (hb : iL b) (hn : ¬ b = 0) (hj : ∀ z, iL z ∧ ((0 < b → -b < z ∧ z < b) ∧ (b < 0 → b < z ∧ z < -b)) ∧ ((0 ≤ a → 0 ≤ z ∧ z ≤ a) ∧ (a ≤ 0 → a ≤ z ∧ z ≤ 0)) ∧ ((0 ≤ a → 0 < b → b ≤ a → z ≤ a - b) ∧ (0 ≤ a → b < 0 → -b ≤ a → z ≤ a + b) ∧ (a ≤ 0 → 0 < b → b ≤ -a → a + b ≤ z) ∧ (a ≤ 0 → b < 0 → -b ≤ -a → a - b ≤ z)) → mx_J B M d nx ls (xL z :: rest) h Post) : mx_J B M d pc ls (xL b :: xL a :: rest) h Post := by
  have h0 : ¬ Int64.ofInt b = 0 := by rw [show (0 : Int64) = Int64.ofInt 0 from rfl, eq_L hb (by decide)]; exact hn
  have hf := tm_f (a := a) (b := b) hn
  have e : Int64.ofInt a - Int64.ofInt a / Int64.ofInt b * Int64.ofInt b = Int64.ofInt (a.tmod b) := by
    rw [← Int64.ofInt_tdiv (by show -9223372036854775808 ≤ a; omega) (by show a ≤ 9223372036854775807; omega) (by show -9223372036854775808 ≤ b; omega) (by show b ≤ 9223372036854775807; omega)]
    rw [← Int64.ofInt_mul, ← Int64.ofInt_sub]
    congr 1
    have := Int.tmod_add_tdiv_mul a b
    omega
  refine mx_J.step hs (fun k call => ?_) (hj (a.tmod b) ⟨by omega, hf⟩)
  unfold mx_lrem
  simp only [if_neg h0, e]
theorem JlremA {a b : Int} (hs : mx_Sn B M pc (mx_lrem nx)) (ha : iL a) (hb : iL b) (hn : ¬ b = 0) (hj : ∀ z, iL z ∧ (0 < b → -b < z ∧ z < b) ∧ (b < 0 → b < z ∧ z < -b) → mx_J B M d nx ls (xL z :: rest) h Post) : mx_J B M d pc ls (xL b :: xL a :: rest) h Post :=
  JlremS hs ha hb hn (fun z hz => hj z ⟨hz.1, hz.2.1.1, hz.2.1.2⟩)
theorem JlremB {a b : Int} (hs : mx_Sn B M pc (mx_lrem nx)) (ha : iL a) (hb : iL b) (hn : ¬ b = 0) (hab : (a ≤ 0 → b < -a ∧ a < b) ∧ (0 ≤ a → b < a ∧ -a < b)) (hj : ∀ z, iL z ∧ (0 ≤ a → -a < 2 * z ∧ 2 * z < a) ∧ (a ≤ 0 → a < 2 * z ∧ 2 * z < -a) → mx_J B M d nx ls (xL z :: rest) h Post) : mx_J B M d pc ls (xL b :: xL a :: rest) h Post := by
  refine JlremS hs ha hb hn (fun z hz => hj z ⟨hz.1, fun h0 => ?_, fun h0 => ?_⟩)
  · have h1 := hab.2 h0
    have h2 := hz.2.1
    have h3 := hz.2.2.1.1 h0
    have h4 := hz.2.2.2.1 h0
    have h5 := hz.2.2.2.2.1 h0
    by_cases hb0 : 0 < b
    · have := h2.1 hb0; have := h4 hb0 (by omega); omega
    · have := h2.2 (by omega); have := h5 (by omega) (by omega); omega
  · have h1 := hab.1 h0
    have h2 := hz.2.1
    have h3 := hz.2.2.1.2 h0
    have h4 := hz.2.2.2.2.2.1 h0
    have h5 := hz.2.2.2.2.2.2 h0
    by_cases hb0 : 0 < b
    · have := h2.1 hb0; have := h4 hb0 (by omega); omega
    · have := h2.2 (by omega); have := h5 (by omega) (by omega); omega
def p10 (k : Int) : Int := if k ≤ 0 then 1 else if k = 1 then 10 else if k = 2 then 100 else if k = 3 then 1000 else if k = 4 then 10000 else if k = 5 then 100000 else if k = 6 then 1000000 else 10000000
theorem p10_s (k : Int) (hk : 0 ≤ k ∧ k ≤ 6) : p10 (k + 1) = p10 k * 10 ∧ 1 ≤ p10 k ∧ p10 k ≤ 1000000 := by
  have h : k = 0 ∨ k = 1 ∨ k = 2 ∨ k = 3 ∨ k = 4 ∨ k = 5 ∨ k = 6 := by omega
  rcases h with h | h | h | h | h | h | h <;> subst h <;> decide
theorem p10_b (k : Int) : 1 ≤ p10 k ∧ p10 k ≤ 10000000 := by
  unfold p10
  repeat' split
  all_goals omega
/-- a stretch of a row of ints is copied -/
noncomputable def cpy (Z : xZ) (b : Nat) (sp : Int) (a : Nat) (dp m : Int) : xZ := fun k i => if k = a ∧ dp ≤ i ∧ i < dp + m then Z b (sp + (i - dp)) else Z k i
theorem mx_J.callx {o : mx_O} {st2 : List Value} {h2 : mx_H} {mi : Nat} {as : List Value} {r1 : mx_R} (hs : mx_Sn B M pc o) (ho : ∀ (k : mx_K) (call : mx_F), call mi as h = some r1 → o k call ls st h = k nx ls2 st2 h2) (hc : mx_Ca B d mi as h r1) (hj : mx_J B M d nx ls2 st2 h2 Post) : mx_J B M d pc ls st h Post := by
  obtain ⟨r, G, hP⟩ := hj
  classical
  refine ⟨r, hs d (fun pc' ls' st' h' => if pc' = nx ∧ ls' = ls2 ∧ st' = st2 ∧ h' = h2 then some r else none) (fun mi' as' h' => if mi' = mi ∧ as' = as ∧ h' = h then some r1 else none) ?_ ?_ ls st h r ?_, hP⟩
  · intro pc' ls' st' h' r' e
    split at e
    · rename_i hq
      obtain ⟨q1, q2, q3, q4⟩ := hq
      have hr := Option.some.inj e
      rw [q1, q2, q3, q4, ← hr]
      exact G
    · cases e
  · intro mi' as' h' r' e
    replace e : (if mi' = mi ∧ as' = as ∧ h' = h then some r1 else none) = some r' := e
    split at e
    · rename_i hq
      obtain ⟨q1, q2, q3⟩ := hq
      have hr := Option.some.inj e
      rw [q1, q2, q3, ← hr]
      exact hc
    · cases e
  · rw [ho _ _ (if_pos ⟨rfl, rfl, rfl⟩)]
    exact if_pos ⟨rfl, rfl, rfl, rfl⟩
theorem cl_N {i : Int} (hi : 0 ≤ i ∧ i ≤ 2147483647) : (Int32.ofInt i).toNatClampNeg = i.toNat ∧ ¬ Int32.ofInt i < 0 := by
  have hii : iI i := by omega
  refine ⟨?_, ?_⟩
  · rw [← Int32.toNat_toInt, ti_I hii]
  · rw [z_I, lt_I hii (by decide)]; omega
theorem Jacopy {a b la lb : Nat} {sp dp m : Int} (hx : XH n s S Z h) (hs : mx_Sn B M pc (mx_acopy 1 nx)) (hb : b < n) (hSb : S b = .inr (.int, lb, 0)) (ha : a < n) (hSa : S a = .inr (.int, la, 0)) (hk : Nat.blt a 1 = false) (h1 : 0 ≤ sp ∧ 0 ≤ dp ∧ 0 ≤ m) (h2 : sp + m ≤ (lb : Int)) (h3 : dp + m ≤ (la : Int)) (hd : ∃ d2, d = d2 + 1) (hl : Nat.ble (mx_cat rest) 8 = true)
    (hj : ∀ (Z2 : xZ) (h2 : mx_H), XH n s S Z2 h2 → Z2 = cpy Z b sp a dp m → mx_J B M d nx ls rest h2 Post) : mx_J B M d pc ls (xI m :: xI dp :: .ref a :: xI sp :: .ref b :: rest) h Post := by
  obtain ⟨d2, hd⟩ := hd
  obtain ⟨Tb, e1, l1, g1⟩ := hx.arr hb hSb
  obtain ⟨Ta, e2, l2, g2⟩ := hx.arr ha hSa
  obtain ⟨c1, c2⟩ := cl_N (i := sp) (by omega)
  obtain ⟨c3, c4⟩ := cl_N (i := dp) (by omega)
  obtain ⟨c5, c6⟩ := cl_N (i := m) (by omega)
  have k1 : Nat.ble (sp.toNat + m.toNat) lb = true := Nat.ble_eq.mpr (by omega)
  have k2 : Nat.ble (dp.toNat + m.toNat) la = true := Nat.ble_eq.mpr (by omega)
  have k3 : mx_allI Tb sp.toNat m.toNat = true := mx_allI_of (fun i hi => by rw [g1 _ (by omega)]; rfl)
  have hX : XH n s S (cpy Z b sp a dp m) (mx_put h a (.inr (.int, la, mx_cpA Tb sp.toNat dp.toNat Ta m.toNat))) := by
    refine hx.put ha ?_ (fun k hk => funext fun i => if_neg (fun q => hk q.1))
    rw [hSa]
    refine ⟨_, rfl, l2, fun j hj => ?_⟩
    rw [mx_cpA_get (by omega) _ (by omega)]
    show _ = vl 0 (if a = a ∧ dp ≤ (j : Int) ∧ (j : Int) < dp + m then Z b (sp + ((j : Int) - dp)) else Z a (j : Int))
    by_cases hc : dp.toNat ≤ j ∧ j < dp.toNat + m.toNat
    · rw [if_pos hc, if_pos ⟨rfl, by omega, by omega⟩, g1 _ (by omega)]
      rw [show ((sp.toNat + (j - dp.toNat) : Nat) : Int) = sp + ((j : Int) - dp) by omega]
    · rw [if_neg hc, if_neg (by omega), g2 _ hj]
  refine mx_J.callx (mi := 0) (as := []) (r1 := (none, h)) hs (fun k call e => ?_) ⟨d2, hd, ⟨Nat.le_refl _, Nat.le_refl _⟩, fun z => absurd rfl z⟩ (hj _ _ hX rfl)
  unfold mx_acopy
  simp only [hk, e1, e2, c1, c3, c5, if_pos (And.intro c2 (And.intro c4 c6)), k1, k2, k3, hl, Bool.and_self, cond_true, cond_false, e]
theorem cpy_fr {Z2 : xZ} {b a : Nat} {sp dp m : Int} (h : Z2 = cpy Z b sp a dp m) : fr' [(a, -1)] Z Z2 := fun k i hk => by
  rw [h]
  refine if_neg (fun q => ?_)
  rw [mm_in (M := [(a, -1)]) (q := (a, -1)) List.mem_cons_self q.1 (Or.inl rfl)] at hk
  cases hk
theorem GI_c41 {Z2 : xZ} (hG : GI n S Z) (hE : Z2 = cpy Z 41 3 41 0 27) : GI n S Z2 := by
  have e : ∀ (k : Nat) (i : Int), k ≠ 41 → Z2 k i = Z k i := fun k i hk => by rw [hE]; exact if_neg (fun q => hk q.1)
  have ev : ∀ i : Int, Z2 41 i = Z 41 i ∨ Z2 41 i = Z 41 (i + 3) := fun i => by
    rw [hE]
    by_cases hq : (41 : Nat) = 41 ∧ (0 : Int) ≤ i ∧ i < 0 + 27
    · right; rw [show cpy Z 41 3 41 0 27 41 i = Z 41 (3 + (i - 0)) from if_pos hq]; congr 1; omega
    · left; exact if_neg hq
  obtain ⟨⟨g1, g2, g3, g4, g5⟩, gs, gw, gt⟩ := hG
  refine ⟨⟨g1, g2, fun k i => ?_, fun k i => ?_, ?_⟩, SM_c (e _ _ (by decide)) (fun i => e _ _ (by decide)) (fun i => e _ _ (by decide)) gs, WF_c (fun i _ => e _ _ (by decide)) gw, ST_c (e _ _ (by decide)) (fun i => e _ _ (by decide)) gt⟩
  · by_cases hk : k = 41
    · subst hk
      rcases ev i with h | h
      · rw [h]; exact g3 41 i
      · rw [h]; exact g3 41 (i + 3)
    · rw [e k i hk]; exact g3 k i
  · by_cases hk : k = 41
    · subst hk
      rcases ev i with h | h
      · rw [h]; exact g4 41 i
      · rw [h]
        have q : (((i + 3) % 3 = 0 → 0 ≤ Z 41 (i + 3) ∧ Z 41 (i + 3) ≤ 384) ∧ ((i + 3) % 3 = 1 → 0 ≤ Z 41 (i + 3) ∧ Z 41 (i + 3) ≤ 9)) := g4 41 (i + 3)
        show ((i % 3 = 0 → 0 ≤ Z 41 (i + 3) ∧ Z 41 (i + 3) ≤ 384) ∧ (i % 3 = 1 → 0 ≤ Z 41 (i + 3) ∧ Z 41 (i + 3) ≤ 9))
        omega
    · rw [e k i hk]; exact g4 k i
  · obtain ⟨d1, d2, d3, d4⟩ := g5
    refine ⟨fun c len o a1 ee i i0 i1 => ?_, fun r o a1 ee => ?_, ?_, ?_⟩
    · rw [e c i (by omega)]; exact d1 c len o a1 ee i i0 i1
    · rw [e r 0 (by omega), e r 1 (by omega), e r 2 (by omega)]; exact d2 r o a1 ee
    · rw [e 36 0 (by decide), e 38 0 (by decide), e 52 0 (by decide), e 54 0 (by decide), e 12 1 (by decide)]; exact d3
    · rw [e 3 8 (by decide), e 3 9 (by decide)]; exact d4
end XK
