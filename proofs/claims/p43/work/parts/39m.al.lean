/-! new cells: an array, an object of the laws, one of draws; what holds of the heap holds on -/
section AL
variable {B : mx_B} {M : mx_M} {d pc nx : Nat} {ls : mx_L} {st rest : List Value} {h : mx_H} {Post : mx_R → Prop} {n s : Nat} {S : Nat → xS} {Z : xZ}
noncomputable def xS1 (S : Nat → xS) (n : Nat) (sh : xS) : Nat → xS := fun k => if k = n then sh else S k
noncomputable def xZ1 (Z : xZ) (n : Nat) (f : Int → Int) : xZ := fun k => if k = n then f else Z k
theorem xS1_n {sh : xS} : xS1 S n sh n = sh := if_pos rfl
theorem xS1_o {sh : xS} {k : Nat} (hk : k < n) : xS1 S n sh k = S k := if_neg (by omega)
theorem xZ1_n {f : Int → Int} : xZ1 Z n f n = f := if_pos rfl
theorem xZ1_o {f : Int → Int} {k : Nat} (hk : k < n) : xZ1 Z n f k = Z k := if_neg (by omega)
def fr8 (M : List (Nat × Int)) (Z Z2 : xZ) : Prop := ∀ k i, Nat.blt k 83 = true → mm M k i = false → Z2 k i = Z k i
theorem fr8_rf {M : List (Nat × Int)} {Z : xZ} : fr8 M Z Z := fun _ _ _ _ => rfl
theorem fr8_of {M : List (Nat × Int)} {Z Z2 : xZ} (h : fr' M Z Z2) : fr8 M Z Z2 := fun k i _ e => h k i e
theorem fr8_tr {M1 M2 M : List (Nat × Int)} {Z Za Z2 : xZ} (h1 : fr8 M1 Z Za) (h2 : fr8 M2 Za Z2) (e1 : mi' M1 M = true) (e2 : mi' M2 M = true) : fr8 M Z Z2 := fun k i hk e => (h2 k i hk (mi_ok e2 k i e)).trans (h1 k i hk (mi_ok e1 k i e))
theorem ab_fr8 {M : List (Nat × Int)} {Z Z2 : xZ} {k : Nat} {len lo hi : Int} (h : AB Z k len lo hi) (hf : fr8 M Z Z2) (h83 : Nat.blt k 83 = true) (hk : ∀ i, mm M k i = false) : AB Z2 k len lo hi := fun i i0 i1 => by rw [hf k i h83 (hk i)]; exact h i i0 i1
theorem XH.push {w : Nat} {sh : xS} {f : Int → Int} {c : mx_C} (hx : XH n s S Z h) (hn : n < 4096) (hc : cR sh f c) : XH (n + 1) (s + w) (xS1 S n sh) (xZ1 Z n f) (mx_push h w c) := by
  obtain ⟨h1, h2, h3, h4⟩ := hx
  refine ⟨by show h.1 + 1 = n + 1; rw [h1], by show h.2.1 + w = s + w; rw [h2], by omega, fun k hk => ?_⟩
  show cR (xS1 S n sh k) (xZ1 Z n f k) (mx_get 12 (mx_set 12 h.2.2 h.1 c) k)
  rw [mx_get_set c 12 h.2.2 h.1 k (by show h.1 < 4096; omega) (by show k < 4096; omega), h1]
  by_cases hkn : k = n
  · rw [if_pos hkn, hkn, xS1_n, xZ1_n]; exact hc
  · rw [if_neg hkn, xS1_o (by omega), xZ1_o (by omega)]; exact h4 k (by omega)
theorem bd_hi {k : Nat} {i : Int} (hk : 83 ≤ k) : bd k i = (-9223372036854775808, 9223372036854775807) := by
  have hb : ∀ m, m ≤ 83 → Nat.blt k m = false := fun m hm => Bool.eq_false_iff.mpr (fun q => by have q : k + 1 ≤ m := Nat.ble_eq.mp q; omega)
  unfold bd
  rw [hb 42 (by decide), cond_false, hb 63 (by decide), cond_false, hb 73 (by decide), cond_false, hb 78 (by decide), cond_false, hb 81 (by decide), cond_false, hb 82 (by decide), cond_false, hb 83 (by decide), cond_false]
theorem ex_hi {k : Nat} {i z : Int} (hk : 83 ≤ k) : ex k i z := by
  have hb : ∀ m, m ≤ 83 → Nat.blt k m = false := fun m hm => Bool.eq_false_iff.mpr (fun q => by have q : k + 1 ≤ m := Nat.ble_eq.mp q; omega)
  unfold ex
  rw [hb 34 (by decide), cond_false, hb 57 (by decide), cond_false, hb 61 (by decide), cond_false, hb 66 (by decide), cond_false, hb 67 (by decide), cond_false]
  trivial
theorem rC_new {sh : xS} {z : Int} (hr : rC n S z) : rC (n + 1) (xS1 S n sh) z := by
  obtain ⟨c, len, e, o, a, l, q⟩ := hr
  exact ⟨c, len, e, o, by omega, l, by rw [xS1_o a]; exact q⟩
theorem rL_new {sh : xS} {z : Int} (hr : rL n S z) : rL (n + 1) (xS1 S n sh) z := by
  obtain ⟨c, e, o, a, q⟩ := hr
  exact ⟨c, e, o, by omega, by rw [xS1_o a]; exact q⟩
theorem GI_new {sh : xS} {f : Int → Int} (hG : GI n S Z) (hf : ∀ i, iL (f i)) (h1 : ∀ len : Nat, sh = .inr (.int, len, 0) → ∀ i : Int, 0 ≤ i → i < (len : Int) → (0 ≤ f i ∧ f i ≤ 1019 ∧ (f i ≤ 1004 ∨ 1010 ≤ f i)))
    (h2 : sh = .inl (3, [2, 2, 0]) → rC n S (f 0) ∧ rC n S (f 1) ∧ (-2147483648 ≤ f 2 ∧ f 2 ≤ 2147483647)) : GI (n + 1) (xS1 S n sh) (xZ1 Z n f) := by
  obtain ⟨⟨g1, g2, g3, g4, ⟨d1, d2, ⟨l1, l2, l3, l4, l5⟩, c1, c2⟩⟩, gs, gw, gt⟩ := hG
  have e : ∀ k, k < n → xZ1 Z n f k = Z k := fun k hk => xZ1_o hk
  have e83 : ∀ k, Nat.blt k 83 = true → k < n := fun k hk => lt83 g1 hk
  have ei : ∀ (k : Nat) (i : Int), Nat.blt k 83 = true → xZ1 Z n f k i = Z k i := fun k i hk => by rw [e k (e83 k hk)]
  refine ⟨⟨by omega, fun k hk => by rw [xS1_o (e83 k hk)]; exact g2 k hk, fun k i => ?_, fun k i => ?_, ⟨fun c len o a1 e9 i i0 i1 => ?_, fun r o a1 e9 => ?_, ⟨?_, ?_, ?_, ?_, ?_⟩, ?_, ?_⟩⟩, SM_c (ei _ _ rfl) (fun i => ei _ _ rfl) (fun i => ei _ _ rfl) gs, WF_c (fun i _ => ei _ _ rfl) gw, ST_c (ei _ _ rfl) (fun i => ei _ _ rfl) gt⟩
  · by_cases hk : k = n
    · subst hk; rw [bd_hi g1, xZ1_n]; exact hf i
    · rw [show xZ1 Z n f k = Z k from if_neg hk]; exact g3 k i
  · by_cases hk : k = n
    · subst hk; exact ex_hi g1
    · rw [show xZ1 Z n f k = Z k from if_neg hk]; exact g4 k i
  · by_cases hk : c = n
    · subst hk; rw [xS1_n] at e9; rw [xZ1_n]; exact h1 len e9 i i0 i1
    · rw [xS1_o (by omega)] at e9; rw [e c (by omega)]; exact d1 c len o (by omega) e9 i i0 i1
  · by_cases hk : r = n
    · subst hk; rw [xS1_n] at e9; rw [xZ1_n]; have q := h2 e9; exact ⟨rC_new q.1, rC_new q.2.1, q.2.2⟩
    · rw [xS1_o (by omega)] at e9; rw [e r (by omega)]; have q := d2 r o (by omega) e9; exact ⟨rC_new q.1, rC_new q.2.1, q.2.2⟩
  · rw [ei _ _ rfl]; exact rL_new l1
  · rw [ei _ _ rfl]; exact rL_new l2
  · rw [ei _ _ rfl]; exact rL_new l3
  · rw [ei _ _ rfl]; exact rL_new l4
  · rw [ei _ _ rfl]; exact rL_new l5
  · rw [ei _ _ rfl]; exact rC_new c1
  · rw [ei _ _ rfl]; exact rC_new c2
theorem GI_upD {Z2 : xZ} {r : Nat} {g z : Int} (hG : GI n S Z) (hE : Z2 = up Z r g z) (h83 : 83 ≤ r) (hz : iL z) (hn1 : ∀ len : Nat, ¬ S r = .inr (.int, len, 0)) (hn2 : ¬ S r = .inl (3, [2, 2, 0])) : GI n S Z2 := by
  have ek : ∀ k, ¬ k = r → ∀ i, Z2 k i = Z k i := fun k hk i => up_ne hE (Or.inl hk)
  have e8 : ∀ (k : Nat) (i : Int), Nat.blt k 83 = true → Z2 k i = Z k i := fun k i hk => ek k (by have q : k + 1 ≤ 83 := Nat.ble_eq.mp hk; omega) i
  obtain ⟨⟨g1, g2, g3, g4, ⟨d1, d2, ⟨l1, l2, l3, l4, l5⟩, c1, c2⟩⟩, gs, gw, gt⟩ := hG
  refine ⟨⟨g1, g2, fun k i => ?_, fun k i => ?_, ⟨fun c len o a1 e9 i i0 i1 => ?_, fun q o a1 e9 => ?_, ⟨?_, ?_, ?_, ?_, ?_⟩, ?_, ?_⟩⟩, SM_c (e8 _ _ rfl) (fun i => e8 _ _ rfl) (fun i => e8 _ _ rfl) gs, WF_c (fun i _ => e8 _ _ rfl) gw, ST_c (e8 _ _ rfl) (fun i => e8 _ _ rfl) gt⟩
  · by_cases hk : k = r
    · subst hk; rw [bd_hi h83]
      by_cases hi : i = g
      · rw [hi, up_at hE]; exact hz
      · rw [up_ni hE hi]; have := g3 k i; rw [bd_hi h83] at this; exact this
    · rw [ek k hk]; exact g3 k i
  · by_cases hk : k = r
    · subst hk; exact ex_hi h83
    · rw [ek k hk]; exact g4 k i
  · have hc : ¬ c = r := fun q => hn1 len (by rw [← q]; exact e9)
    rw [ek c hc]; exact d1 c len o a1 e9 i i0 i1
  · have hc : ¬ q = r := fun w => hn2 (by rw [← w]; exact e9)
    rw [ek q hc, ek q hc, ek q hc]; exact d2 q o a1 e9
  · rw [e8 _ _ rfl]; exact l1
  · rw [e8 _ _ rfl]; exact l2
  · rw [e8 _ _ rfl]; exact l3
  · rw [e8 _ _ rfl]; exact l4
  · rw [e8 _ _ rfl]; exact l5
  · rw [e8 _ _ rfl]; exact c1
  · rw [e8 _ _ rfl]; exact c2
theorem fr8_upD {Z2 : xZ} {r : Nat} {g z : Int} (hE : Z2 = up Z r g z) (h83 : 83 ≤ r) : fr8 [] Z Z2 := fun k i hk _ => up_ne hE (Or.inl (by have q : k + 1 ≤ 83 := Nat.ble_eq.mp hk; omega))
theorem fr8_new {f : Int → Int} (hG : GI n S Z) : fr8 [] Z (xZ1 Z n f) := fun k i hk _ => by rw [xZ1_o (lt83 (GI_n hG) hk)]
theorem Jnewa {m : Int} (hx : XH n s S Z h) (hs : mx_Sn B M pc (mx_newa .int (.int 0) nx)) (hm : 0 ≤ m ∧ m ≤ 8192) (hn : n < 4096) (hj : ∀ h', XH (n + 1) (s + m.toNat) (xS1 S n (.inr (.int, m.toNat, 0))) (xZ1 Z n (fun _ => 0)) h' → mx_J B M d nx ls (.ref n :: rest) h' Post) : mx_J B M d pc ls (xI m :: rest) h Post := by
  obtain ⟨c1, c2⟩ := cl_N (i := m) (by omega)
  have k1 : Nat.blt n 4096 = true := Nat.ble_eq.mpr hn
  have k2 : Nat.ble m.toNat 8192 = true := Nat.ble_eq.mpr (by omega)
  have h0 : ¬ Int32.ofInt m < 0 := c2
  refine mx_J.step hs (fun k call => ?_) (hj _ (hx.push hn ⟨mx_rep (.int 0) 13, rfl, by omega, fun j _ => by rw [mx_get_rep]; rfl⟩))
  unfold mx_newa
  simp only [if_neg h0, c1, k1, k2, Bool.and_self, cond_true, hx.1]
theorem JnewD (hx : XH n s S Z h) (hG : GI n S Z) (hs : mx_Sn B M pc (mx_new 1 1 [.int 0] nx)) (hn : n < 4096) (hj : ∀ (n2 s2 : Nat) (S2 : Nat → xS) (Z2 : xZ) (h2 : mx_H), n2 = n + 1 → s2 = s + 1 → XH n2 s2 S2 Z2 h2 → GI n2 S2 Z2 → fr8 [] Z Z2 → 83 ≤ n → n < n2 → S2 n = .inl (1, [0]) → mx_J B M d nx ls (.ref n :: st) h2 Post) : mx_J B M d pc ls st h Post := by
  have k1 : Nat.blt n 4096 = true := Nat.ble_eq.mpr hn
  refine mx_J.step hs (fun k call => ?_) (hj _ _ _ _ _ rfl rfl (hx.push hn (w := 1) (sh := .inl (1, [0])) (f := fun _ => 0) (c := .inl (1, [.int 0])) rfl) (GI_new hG (fun _ => by decide) (fun len e => by cases e) (fun e => by cases e)) (fr8_new hG) (GI_n hG) (by omega) xS1_n)
  unfold mx_new
  simp only [k1, cond_true, hx.1]
theorem Jci0 {mi nt b : Nat} {as : List Value} {h2 : mx_H} (hs : mx_Sn B M pc (mx_calli mi nt nx)) (hca : mx_Ca B d mi (.ref b :: as) h (none, h2)) (hst : (st.take nt).reverse = .ref b :: as) (hl : (Nat.beq as.length (nt - 1) && Nat.ble (mx_cat (st.drop nt)) 8) = true) (hr : st.drop nt = rest) (hj : mx_J B M d nx ls rest h2 Post) : mx_J B M d pc ls st h Post := by
  subst hr
  refine mx_J.call (r1 := (none, h2)) hs (fun k call e => ?_) hca hj
  unfold mx_calli
  simp only [hst, hl, cond_true, e]
  rfl
theorem Jobj {b : Nat} (hs : mx_Sn B M pc (mx_objinit nx)) (hd : ∃ d2, d = d2 + 1) (hl : Nat.ble (mx_cat rest) 8 = true) (hj : mx_J B M d nx ls rest h Post) : mx_J B M d pc ls (.ref b :: rest) h Post := by
  obtain ⟨d2, hd⟩ := hd
  refine mx_J.call (mi := 0) (as := []) (r1 := (none, h)) hs (fun k call e => ?_) ⟨d2, hd, ⟨Nat.le_refl _, Nat.le_refl _⟩, fun z => absurd rfl z⟩ hj
  unfold mx_objinit
  simp only [hl, cond_true, e]
theorem Jputw {KC a ci f : Nat} {ty : FieldType} {fs : List Value} {v : Value} (hs : mx_Sn B M pc (mx_putf KC ci f ty nx)) (hc : mx_cell h a = some (.inl (ci, fs))) (hk : Nat.blt a KC = false) (hl : Nat.blt f fs.length = true) (hf : mx_fit ty v = true) (hj : mx_J B M d nx ls rest (mx_put h a (.inl (ci, mx_upd fs f v))) Post) : mx_J B M d pc ls (v :: .ref a :: rest) h Post := by
  refine mx_J.step hs (fun k call => ?_) hj
  unfold mx_putf
  simp only [hc, Nat.beq_refl, hk, cond_true, cond_false, hl, hf, Bool.and_self]
theorem put_cell {a : Nat} {c : mx_C} (ha : a < h.1) (h4 : h.1 ≤ 4096) : mx_cell (mx_put h a c) a = some c := by
  refine mx_cell_of2 ha ?_
  show mx_get 12 (mx_set 12 h.2.2 a c) a = c
  rw [mx_get_set c 12 h.2.2 a a (by show a < 4096; omega) (by show a < 4096; omega), if_pos rfl]
theorem put_get {a k : Nat} {c : mx_C} (ha : a < 4096) (hk : k < 4096) : mx_get 12 (mx_put h a c).2.2 k = if k = a then c else mx_get 12 h.2.2 k := mx_get_set c 12 h.2.2 a k ha hk
end AL
section ALc
variable {l : Launch} {D : va_G} {b0 : Nat} {ad : Nat → Nat} {Hb : Heap} {tau : Nat → Int64} {d n s : Nat} {S : Nat → xS} {Z : xZ} {h : mx_H}
theorem ct_298_5 (hx : XH n s S Z h) (hG : GI n S Z) {x0 : Int} (p0 : 0 ≤ x0 ∧ x0 ≤ 899) (hn : n < 4096) : ∃ (h' : mx_H) (S' : Nat → xS) (Z' : xZ), mx_Ca (tB l D b0 ad Hb tau) (d + 2) 298 [.ref 5, xI x0] h (some (.ref n), h') ∧ XH (n + 1) (s + x0.toNat) S' Z' h' ∧ GI (n + 1) S' Z' ∧ fr8 [] Z Z' ∧ S' n = .inr (.int, x0.toNat, 0) := by
  have a5 : 5 < n := lt83 (GI_n hG) rfl
  have s5 : S 5 = .inr (.int, 900, 0) := GI_s hG 5 rfl
  obtain ⟨r, hca, h', S', Z', e, q⟩ := Jmt (B := tB l D b0 ad Hb tau) (M := mt_298) (mi := 298) (as := [.ref 5, xI x0]) (d := d + 1) (h := h) (ls := [some (.ref 5), some (xI x0), none]) (Post := fun r => ∃ (h' : mx_H) (S' : Nat → xS) (Z' : xZ), r = (some (.ref n), h') ∧ XH (n + 1) (s + x0.toNat) S' Z' h' ∧ GI (n + 1) S' Z' ∧ fr8 [] Z Z' ∧ S' n = .inr (.int, x0.toNat, 0)) rfl rfl rfl rfl rfl rfl (by
    refine mx_J.step (sn_298 0) (fun _ _ => rfl) ?_
    refine mx_J.step (sn_298 1) (fun _ _ => rfl) ?_
    refine JalenI (z := 900) hx (show mx_Sn _ _ 2 (mx_alen 3) from sn_298 2) a5 s5 (by decide) rfl ?_
    refine Jicmp_ne (show mx_Sn _ _ 3 (mx_icmp_ne 14 6) from sn_298 3) (by omega) (by omega) (fun q => ?_) (fun q => absurd q (by omega))
    refine mx_J.step (sn_298 14) (fun _ _ => rfl) ?_
    refine Jnewa hx (show mx_Sn _ _ 15 (mx_newa .int (.int 0) 17) from sn_298 15) (by omega) hn (fun h1 hx1 => ?_)
    have a5' : 5 < n + 1 := by omega
    have s5' : xS1 S n (.inr (.int, x0.toNat, 0)) 5 = .inr (.int, 900, 0) := by rw [xS1_o a5]; exact s5
    refine mx_J.step (ls2 := [some (.ref 5), some (xI x0), some (.ref n)]) (sn_298 17) (fun _ _ => rfl) ?_
    refine mx_J.step (sn_298 18) (fun _ _ => rfl) ?_
    refine JcI (z := 0) (show mx_Sn _ _ 19 (mx_const (.int 0) 20) from sn_298 19) rfl ?_
    refine mx_J.step (sn_298 20) (fun _ _ => rfl) ?_
    refine JcI (z := 0) (show mx_Sn _ _ 21 (mx_const (.int 0) 22) from sn_298 21) rfl ?_
    refine mx_J.step (sn_298 22) (fun _ _ => rfl) ?_
    refine JalenI (z := 900) hx1 (show mx_Sn _ _ 23 (mx_alen 24) from sn_298 23) a5' s5' (by decide) rfl ?_
    refine mx_J.step (sn_298 24) (fun _ _ => rfl) ?_
    refine Jmmin (show mx_Sn _ _ 25 (mx_mmin 28) from sn_298 25) (by omega) (by omega) ⟨_, rfl⟩ rfl (fun y hy => ?_)
    refine Jacopy (la := x0.toNat) (lb := 900) hx1 (show mx_Sn _ _ 28 (mx_acopy 1 31) from sn_298 28) a5' s5' (by omega) xS1_n (Bool.eq_false_iff.mpr (fun q => by have q : n + 1 ≤ 1 := Nat.ble_eq.mp q; omega)) (by omega) (by omega) (by omega) ⟨_, rfl⟩ rfl (fun Z2 h2 hx2 hE2 => ?_)
    refine mx_J.step (sn_298 31) (fun _ _ => rfl) ?_
    have eZ : Z2 = xZ1 Z n (fun i => if 0 ≤ i ∧ i < 0 + y then Z 5 (0 + (i - 0)) else 0) := by
      rw [hE2]
      funext k i
      by_cases hk : k = n
      · subst hk
        rw [xZ1_n]
        show (if k = k ∧ 0 ≤ i ∧ i < 0 + y then xZ1 Z k (fun _ => 0) 5 (0 + (i - 0)) else xZ1 Z k (fun _ => 0) k i) = _
        rw [xZ1_n, xZ1_o a5]
        by_cases hi : 0 ≤ i ∧ i < 0 + y
        · rw [if_pos ⟨rfl, hi⟩, if_pos hi]
        · rw [if_neg (fun q => hi q.2), if_neg hi]
      · show (if k = n ∧ 0 ≤ i ∧ i < 0 + y then _ else xZ1 Z n (fun _ => 0) k i) = _
        rw [if_neg (fun q => hk q.1)]
        show (if k = n then _ else Z k) i = (if k = n then _ else Z k) i
        rw [if_neg hk, if_neg hk]
    rw [eZ] at hx2
    have h5 : ∀ i : Int, 0 ≤ Z 5 i ∧ Z 5 i ≤ 1019 ∧ (Z 5 i ≤ 1004 ∨ 1010 ≤ Z 5 i) := fun i => by
      have b1 : 0 ≤ Z 5 i ∧ Z 5 i ≤ 1019 := hG.pr 5 i
      have b2 : (Z 5 i ≤ 1004 ∨ 1010 ≤ Z 5 i) := GI_ex hG 5 i
      exact ⟨b1.1, b1.2, b2⟩
    refine mx_J.ret (sn_298 32) (fun _ _ => rfl) ⟨h2, _, _, rfl, hx2, GI_new hG (fun i => ?_) (fun len _ i _ _ => ?_) (fun e => by cases e), fr8_new hG, xS1_n⟩
    · show iL (if 0 ≤ i ∧ i < 0 + y then Z 5 (0 + (i - 0)) else 0)
      split
      · have := h5 (0 + (i - 0)); omega
      · decide
    · show 0 ≤ (if 0 ≤ i ∧ i < 0 + y then Z 5 (0 + (i - 0)) else 0) ∧ _
      split
      · exact h5 _
      · exact ⟨by omega, by omega, Or.inl (by omega)⟩)
  subst e
  exact ⟨h', S', Z', hca, q⟩
theorem ct_22 {r g m : Nat} {x : Int} {fs : List Value} (hc : mx_cell h r = some (.inl (3, fs))) (hfl : fs.length = 3) (hr : 1 ≤ r) (h4 : h.1 ≤ 4096) : ∃ h' : mx_H, mx_Ca (tB l D b0 ad Hb tau) (d + 2) 22 [.ref r, .ref g, .ref m, xI x] h (none, h') ∧ h'.1 = h.1 ∧ h'.2.1 = h.2.1 ∧ ∀ k, k < 4096 → mx_get 12 h'.2.2 k = if k = r then .inl (3, [.ref g, .ref m, xI x]) else mx_get 12 h.2.2 k := by
  have hrl : r < h.1 := by
    unfold mx_cell at hc
    cases hq : Nat.blt r h.1 with
    | true => exact Nat.ble_eq.mp hq
    | false => rw [hq] at hc; cases hc
  have hk : Nat.blt r 1 = false := Bool.eq_false_iff.mpr (fun q => by have q : r + 1 ≤ 1 := Nat.ble_eq.mp q; omega)
  match fs, hfl, hc with
  | [f0, f1, f2], _, hc =>
  obtain ⟨rr, hca, h', e, q⟩ := Jmt (B := tB l D b0 ad Hb tau) (M := mt_22) (mi := 22) (as := [.ref r, .ref g, .ref m, xI x]) (d := d + 1) (h := h) (ls := [some (.ref r), some (.ref g), some (.ref m), some (xI x)]) (Post := fun rr => ∃ h' : mx_H, rr = (none, h') ∧ h'.1 = h.1 ∧ h'.2.1 = h.2.1 ∧ ∀ k, k < 4096 → mx_get 12 h'.2.2 k = if k = r then .inl (3, [.ref g, .ref m, xI x]) else mx_get 12 h.2.2 k) rfl rfl rfl rfl rfl rfl (by
    refine mx_J.step (sn_22 0) (fun _ _ => rfl) ?_
    refine Jobj (show mx_Sn _ _ 1 (mx_objinit 4) from sn_22 1) ⟨_, rfl⟩ rfl ?_
    refine mx_J.step (sn_22 4) (fun _ _ => rfl) ?_
    refine mx_J.step (sn_22 5) (fun _ _ => rfl) ?_
    refine Jputw (show mx_Sn _ _ 6 (mx_putf 1 3 0 (.array .int) 9) from sn_22 6) hc hk rfl rfl ?_
    refine mx_J.step (sn_22 9) (fun _ _ => rfl) ?_
    refine mx_J.step (sn_22 10) (fun _ _ => rfl) ?_
    refine Jputw (show mx_Sn _ _ 11 (mx_putf 1 3 1 (.array .int) 14) from sn_22 11) (put_cell hrl h4) hk rfl rfl ?_
    refine mx_J.step (sn_22 14) (fun _ _ => rfl) ?_
    refine mx_J.step (sn_22 15) (fun _ _ => rfl) ?_
    refine Jputw (show mx_Sn _ _ 16 (mx_putf 1 3 2 (.int) 19) from sn_22 16) (put_cell (h := mx_put h r _) hrl h4) hk rfl rfl ?_
    refine mx_J.ret (sn_22 19) (fun _ _ => rfl) ⟨_, rfl, rfl, rfl, fun k hk4 => ?_⟩
    rw [put_get (by omega) hk4, put_get (by omega) hk4, put_get (by omega) hk4]
    by_cases hkr : k = r
    · rw [if_pos hkr, if_pos hkr]; rfl
    · rw [if_neg hkr, if_neg hkr, if_neg hkr, if_neg hkr])
  subst e
  exact ⟨h', hca, q⟩
theorem ct_39_3 (hx : XH n s S Z h) (hG : GI n S Z) (hn : n < 4096) : ∃ (h' : mx_H) (S' : Nat → xS) (Z' : xZ), mx_Ca (tB l D b0 ad Hb tau) (d + 3) 39 [.ref 3] h (some (.ref n), h') ∧ XH (n + 1) (s + 3) S' Z' h' ∧ GI (n + 1) S' Z' ∧ fr8 [] Z Z' ∧ S' n = .inl (3, [2, 2, 0]) := by
  have a3 : 3 < n := lt83 (GI_n hG) rfl
  have s3 : S 3 = .inl (7, [2, 0, 0, 0, 0, 0, 2, 0, 2, 2, 0, 2, 0, 0, 0, 0]) := GI_s hG 3 rfl
  have hc3 := hx.obj a3 s3
  obtain ⟨cg, lg, eg, og, ag, lg9, sg⟩ := (GB_dy hG.1).2.2.2.1
  obtain ⟨cm, lm, em, om, am, lm9, sm⟩ := (GB_dy hG.1).2.2.2.2
  have hN : h.1 = n := hx.1
  have h8 : mx_fld (mx_push h 3 (.inl (3, [.null, .null, .int 0]))) 3 7 8 = some (.ref cg) := by
    have e := fl_nth (f := Z 3) (i := 0) (show mx_nth [2, 0, 0, 0, 0, 0, 2, 0, 2, 2, 0, 2, 0, 0, 0, 0] 8 = some 2 from rfl)
    unfold mx_fld
    rw [show mx_cell (mx_push h 3 (.inl (3, [.null, .null, .int 0]))) 3 = mx_cell h 3 from (by unfold mx_cell; rw [show Nat.blt 3 (mx_push h 3 (.inl (3, [.null, .null, .int 0]))).1 = true from Nat.ble_eq.mpr (by show 3 + 1 ≤ h.1 + 1; omega), show Nat.blt 3 h.1 = true from Nat.ble_eq.mpr (by show 3 + 1 ≤ h.1; omega)]; show some (mx_get 12 (mx_set 12 h.2.2 h.1 _) 3) = some (mx_get 12 h.2.2 3); rw [mx_get_set _ 12 h.2.2 h.1 3 (by show h.1 < 4096; omega) (by show 3 < 4096; omega), if_neg (by omega)]), hc3]
    show mx_nth (fl [2, 0, 0, 0, 0, 0, 2, 0, 2, 2, 0, 2, 0, 0, 0, 0] (Z 3) 0) 8 = _
    rw [e]
    show some (Value.ref (Z 3 8).toNat) = _
    rw [eg]; rfl
  have h9 : mx_fld (mx_push h 3 (.inl (3, [.null, .null, .int 0]))) 3 7 9 = some (.ref cm) := by
    have e := fl_nth (f := Z 3) (i := 0) (show mx_nth [2, 0, 0, 0, 0, 0, 2, 0, 2, 2, 0, 2, 0, 0, 0, 0] 9 = some 2 from rfl)
    unfold mx_fld
    rw [show mx_cell (mx_push h 3 (.inl (3, [.null, .null, .int 0]))) 3 = mx_cell h 3 from (by unfold mx_cell; rw [show Nat.blt 3 (mx_push h 3 (.inl (3, [.null, .null, .int 0]))).1 = true from Nat.ble_eq.mpr (by show 3 + 1 ≤ h.1 + 1; omega), show Nat.blt 3 h.1 = true from Nat.ble_eq.mpr (by show 3 + 1 ≤ h.1; omega)]; show some (mx_get 12 (mx_set 12 h.2.2 h.1 _) 3) = some (mx_get 12 h.2.2 3); rw [mx_get_set _ 12 h.2.2 h.1 3 (by show h.1 < 4096; omega) (by show 3 < 4096; omega), if_neg (by omega)]), hc3]
    show mx_nth (fl [2, 0, 0, 0, 0, 0, 2, 0, 2, 2, 0, 2, 0, 0, 0, 0] (Z 3) 0) 9 = _
    rw [e]
    show some (Value.ref (Z 3 9).toNat) = _
    rw [em]; rfl
  have h10 : mx_fld (mx_push h 3 (.inl (3, [.null, .null, .int 0]))) 3 7 10 = some (xI (Z 3 10)) := by
    have e := fl_nth (f := Z 3) (i := 0) (show mx_nth [2, 0, 0, 0, 0, 0, 2, 0, 2, 2, 0, 2, 0, 0, 0, 0] 10 = some 0 from rfl)
    unfold mx_fld
    rw [show mx_cell (mx_push h 3 (.inl (3, [.null, .null, .int 0]))) 3 = mx_cell h 3 from (by unfold mx_cell; rw [show Nat.blt 3 (mx_push h 3 (.inl (3, [.null, .null, .int 0]))).1 = true from Nat.ble_eq.mpr (by show 3 + 1 ≤ h.1 + 1; omega), show Nat.blt 3 h.1 = true from Nat.ble_eq.mpr (by show 3 + 1 ≤ h.1; omega)]; show some (mx_get 12 (mx_set 12 h.2.2 h.1 _) 3) = some (mx_get 12 h.2.2 3); rw [mx_get_set _ 12 h.2.2 h.1 3 (by show h.1 < 4096; omega) (by show 3 < 4096; omega), if_neg (by omega)]), hc3]
    show mx_nth (fl [2, 0, 0, 0, 0, 0, 2, 0, 2, 2, 0, 2, 0, 0, 0, 0] (Z 3) 0) 10 = _
    rw [e]
    rfl
  have hcn : mx_cell (mx_push h 3 (.inl (3, [.null, .null, .int 0]))) n = some (.inl (3, [.null, .null, .int 0])) := by
    refine mx_cell_of2 (by show n < h.1 + 1; omega) ?_
    show mx_get 12 (mx_set 12 h.2.2 h.1 _) n = _
    rw [mx_get_set _ 12 h.2.2 h.1 n (by show h.1 < 4096; omega) (by show n < 4096; omega), if_pos hN.symm]
  obtain ⟨h2, hca2, e1, e2, e3⟩ := ct_22 (l := l) (D := D) (b0 := b0) (ad := ad) (Hb := Hb) (tau := tau) (d := d) (g := cg) (m := cm) (x := Z 3 10) hcn rfl (by have := GI_n hG; omega) (by show h.1 + 1 ≤ 4096; omega)
  obtain ⟨r, hca, e⟩ := Jmt (B := tB l D b0 ad Hb tau) (M := mt_39) (mi := 39) (as := [.ref 3]) (d := d + 2) (h := h) (ls := [some (.ref 3)]) (Post := fun r => r = (some (.ref n), h2)) rfl rfl rfl rfl rfl rfl (by
    refine mx_J.step (ls2 := [some (.ref 3)]) (st2 := [.ref n]) (h2 := mx_push h 3 (.inl (3, [.null, .null, .int 0]))) (nx := 3) (show mx_Sn _ _ 0 (mx_new 3 3 [.null, .null, .int 0] 3) from sn_39 0) (fun k call => ?_) ?_
    · unfold mx_new
      rw [show Nat.blt h.1 4096 = true from Nat.ble_eq.mpr (by rw [hN]; exact hn), hN]
      rfl
    refine mx_J.step (sn_39 3) (fun _ _ => rfl) ?_
    refine mx_J.step (sn_39 4) (fun _ _ => rfl) ?_
    refine mx_J.getf (show mx_Sn _ _ 5 (mx_getf 7 8 8) from sn_39 5) h8 ?_
    refine mx_J.step (sn_39 8) (fun _ _ => rfl) ?_
    refine mx_J.getf (show mx_Sn _ _ 9 (mx_getf 7 9 12) from sn_39 9) h9 ?_
    refine mx_J.step (sn_39 12) (fun _ _ => rfl) ?_
    refine mx_J.getf (show mx_Sn _ _ 13 (mx_getf 7 10 16) from sn_39 13) h10 ?_
    refine Jci0 (show mx_Sn _ _ 16 (mx_calli 22 4 19) from sn_39 16) hca2 rfl rfl rfl ?_
    exact mx_J.ret (sn_39 19) (fun _ _ => rfl) rfl)
  subst e
  refine ⟨h2, xS1 S n (.inl (3, [2, 2, 0])), xZ1 Z n (fun i => if i = 0 then (cg : Int) else if i = 1 then (cm : Int) else Z 3 10), hca, ⟨?_, ?_, by omega, fun k hk => ?_⟩, GI_new hG (fun i => ?_) (fun len e => by cases e) (fun _ => ⟨⟨cg, lg, rfl, og, ag, lg9, sg⟩, ⟨cm, lm, rfl, om, am, lm9, sm⟩, (by have b10 : (bd 3 10).1 ≤ Z 3 10 ∧ Z 3 10 ≤ (bd 3 10).2 := hG.pr 3 10; have b10 : 0 ≤ Z 3 10 ∧ Z 3 10 ≤ 901 := b10; show -2147483648 ≤ Z 3 10 ∧ Z 3 10 ≤ 2147483647; omega)⟩), fr8_new hG, xS1_n⟩
  · rw [e1]; show h.1 + 1 = n + 1; rw [hN]
  · rw [e2]; show h.2.1 + 3 = s + 3; rw [hx.2.1]
  · rw [e3 k (by omega)]
    by_cases hkn : k = n
    · rw [if_pos hkn, hkn, xS1_n, xZ1_n]; rfl
    · rw [if_neg hkn, xS1_o (by omega), xZ1_o (by omega)]
      show cR (S k) (Z k) (mx_get 12 (mx_set 12 h.2.2 h.1 _) k)
      rw [mx_get_set _ 12 h.2.2 h.1 k (by show h.1 < 4096; omega) (by show k < 4096; omega), hN, if_neg hkn]
      exact hx.2.2.2 k (by omega)
  · show iL (if i = 0 then (cg : Int) else if i = 1 then (cm : Int) else Z 3 10)
    have b10 : (bd 3 10).1 ≤ Z 3 10 ∧ Z 3 10 ≤ (bd 3 10).2 := hG.pr 3 10
    have b10 : 0 ≤ Z 3 10 ∧ Z 3 10 ≤ 901 := b10
    split
    · omega
    · split <;> omega
theorem ca_298 (hx : XH n s S Z h) (hG : GI n S Z) {x0 : Int} (p0 : 0 ≤ x0 ∧ x0 ≤ 899) (hn : ((n : Nat) : Int) ≤ 4095) : ∃ (r n' s' : Nat) (S' : Nat → xS) (Z' : xZ) (h' : mx_H), mx_Ca (tB l D b0 ad Hb tau) (d + 2) 298 [.ref 5, xI x0] h (some (.ref r), h') ∧ XH n' s' S' Z' h' ∧ GI n' S' Z' ∧ fr8 [] Z Z' ∧ (((n' : Nat) : Int) = ((n : Nat) : Int) + 1 ∧ ((s' : Nat) : Int) = ((s : Nat) : Int) + x0) ∧ okC r ∧ r < n' ∧ (x0.toNat ≤ 900 ∧ S' r = .inr (.int, x0.toNat, 0)) := by
  obtain ⟨h', S', Z', hc, q1, q2, q3, q4⟩ := ct_298_5 (l := l) (D := D) (b0 := b0) (ad := ad) (Hb := Hb) (tau := tau) (d := d) hx hG p0 (by omega)
  exact ⟨n, n + 1, s + x0.toNat, S', Z', h', hc, q1, q2, q3, by omega, Or.inr (GI_n hG), by omega, by omega, q4⟩
theorem ca_39 (hx : XH n s S Z h) (hG : GI n S Z) (hn : ((n : Nat) : Int) ≤ 4095) : ∃ (r n' s' : Nat) (S' : Nat → xS) (Z' : xZ) (h' : mx_H), mx_Ca (tB l D b0 ad Hb tau) (d + 3) 39 [.ref 3] h (some (.ref r), h') ∧ XH n' s' S' Z' h' ∧ GI n' S' Z' ∧ fr8 [] Z Z' ∧ (((n' : Nat) : Int) = ((n : Nat) : Int) + 1 ∧ ((s' : Nat) : Int) = ((s : Nat) : Int) + 3) ∧ okL r ∧ r < n' ∧ S' r = .inl (3, [2, 2, 0]) := by
  obtain ⟨h', S', Z', hc, q1, q2, q3, q4⟩ := ct_39_3 (l := l) (D := D) (b0 := b0) (ad := ad) (Hb := Hb) (tau := tau) (d := d) hx hG (by omega)
  exact ⟨n, n + 1, s + 3, S', Z', h', hc, q1, q2, q3, by omega, by have := GI_n hG; unfold okL; omega, by omega, q4⟩
end ALc
