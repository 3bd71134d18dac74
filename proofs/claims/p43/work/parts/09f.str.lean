section MXT
variable {B : mx_B} {M : mx_M} {pc : Nat}
/-- System.arraycopy of ints -/
noncomputable def mx_cpA (s : mx_A) (sp dp : Nat) (t : mx_A) (n : Nat) : mx_A := Nat.rec (motive := fun _ => mx_A) t (fun i acc => mx_set 13 acc (dp + i) (mx_get 13 s (sp + i))) n
theorem mx_cpA_get {s t : mx_A} {sp dp j : Nat} (hj : j < 8192) : ∀ n, dp + n ≤ 8192 → mx_get 13 (mx_cpA s sp dp t n) j = if dp ≤ j ∧ j < dp + n then mx_get 13 s (sp + (j - dp)) else mx_get 13 t j
  | 0, _ => by rw [if_neg (by omega)]; rfl
  | n + 1, h => by
    show mx_get 13 (mx_set 13 (mx_cpA s sp dp t n) (dp + n) (mx_get 13 s (sp + n))) j = _
    rw [mx_get_set _ 13 _ _ _ (by show dp + n < 8192; omega) (by show j < 8192; omega)]
    by_cases hjn : j = dp + n
    · rw [if_pos hjn, if_pos (by omega), hjn, show dp + n - dp = n by omega]
    · rw [if_neg hjn, mx_cpA_get hj n (by omega)]
      by_cases hq : dp ≤ j ∧ j < dp + n
      · rw [if_pos hq, if_pos (by omega)]
      · rw [if_neg hq, if_neg (by omega)]
noncomputable def mx_isI : Value → Bool
  | .int _ => true
  | .float _ => true
  | _ => false
noncomputable def mx_allI (s : mx_A) (sp n : Nat) : Bool := Nat.rec (motive := fun _ => Bool) true (fun i b => mx_isI (mx_get 13 s (sp + i)) && b) n
theorem mx_allI_at {s : mx_A} {sp i : Nat} : ∀ {n}, mx_allI s sp n = true → i < n → mx_isI (mx_get 13 s (sp + i)) = true
  | 0, _, h => absurd h (Nat.not_lt_zero _)
  | n + 1, h, hi => by
    have h : (mx_isI (mx_get 13 s (sp + n)) && mx_allI s sp n) = true := h
    rw [Bool.and_eq_true] at h
    by_cases hin : i = n
    · rw [hin]; exact h.1
    · exact mx_allI_at h.2 (by omega)
theorem mx_allI_of {s : mx_A} {sp : Nat} : ∀ {n}, (∀ i, i < n → mx_isI (mx_get 13 s (sp + i)) = true) → mx_allI s sp n = true
  | 0, _ => rfl
  | n + 1, h => by
    show (mx_isI (mx_get 13 s (sp + n)) && mx_allI s sp n) = true
    rw [h n (by omega), mx_allI_of (fun i hi => h i (by omega))]; rfl
noncomputable def mx_acopy (KC nx : Nat) : mx_O := fun k call ls st h => match st with
  | .int n :: .int dp :: .ref a :: .int sp :: .ref b :: r => bif Nat.blt a KC then none else match mx_cell h b with
    | some (.inr (.int, nb, tb)) => match mx_cell h a with
      | some (.inr (.int, na, ta)) => if ¬ sp < 0 ∧ ¬ dp < 0 ∧ ¬ n < 0 then (bif Nat.ble (sp.toNatClampNeg + n.toNatClampNeg) nb && (Nat.ble (dp.toNatClampNeg + n.toNatClampNeg) na && (mx_allI tb sp.toNatClampNeg n.toNatClampNeg && Nat.ble (mx_cat r) 8)) then match call 0 [] h with
          | some _ => k nx ls r (mx_put h a (.inr (.int, na, mx_cpA tb sp.toNatClampNeg dp.toNatClampNeg ta n.toNatClampNeg)))
          | none => none
        else none) else none
      | _ => none
    | _ => none
  | _ => none
theorem mx_s_acopy {i : Nat} (hd : decode M.1 pc = .ok (.invokestatic i, 3)) (hlink : Cond.methodLink M.2.2.1 i arraycopyName ∈ B.2.1.2.1) (hnat : Cond.native arraycopyName ∈ B.2.1.2.1) (hstat : Cond.static arraycopyName ∈ B.2.1.2.1) (hini : Cond.initialized "java/lang/System" ∈ B.2.1.2.1) : mx_Sn B M pc (mx_acopy B.2.1.1.2.2.1 (pc + 3)) := by
  intro d k call hk hcall ls st h rr e
  unfold mx_acopy at e
  split at e
  · rename_i n dp a sp b rest
    replace e := mx_bf e
    obtain ⟨ha, e⟩ := e
    have ha2 := mx_nblt ha
    split at e
    · rename_i nb tb hcb
      split at e
      · rename_i na ta hca
        split at e
        · rename_i hpos
          obtain ⟨p1, p2, p3⟩ := hpos
          replace e := mx_bt e
          obtain ⟨hb, e⟩ := e
          obtain ⟨hb1, hb2⟩ := mx_and hb
          obtain ⟨hb2, hb3⟩ := mx_and hb2
          obtain ⟨hb3, hb4⟩ := mx_and hb3
          have hb1 := Nat.ble_eq.mp hb1
          have hb2 := Nat.ble_eq.mp hb2
          have hcat := Nat.ble_eq.mp hb4
          obtain ⟨r0, hr0, e⟩ := mx_om e
          obtain ⟨d', hdd, -, -⟩ := hcall _ _ _ _ hr0
          have G := hk _ _ _ _ _ e
          refine ⟨G.1, fun p e s m args below meth c hc hs H locs la A h1 h2 hR hL hl => ?_⟩
          subst hdd
          obtain ⟨cb, b1, b2, b3, b4, b5, b6, b7⟩ := hR.arr hcb (by intro h; cases h)
          obtain ⟨cd, a1, a2, a3, a4, a5, a6, a7⟩ := hR.arr hca (by intro h; cases h)
          have nn : ∀ z : Int32, ¬ z < 0 → z.toInt = (z.toNatClampNeg : Int) := by
            intro z hz
            have hz0 : (0 : Int) ≤ z.toInt := by
              have := Int32.not_lt.mp hz
              simpa using Int32.le_iff_toInt_le.mp this
            show z.toInt = ((z.toInt.toNat : Nat) : Int)
            omega
          obtain ⟨kb, hkb, compb, hkindb⟩ := b2.2
          obtain ⟨kd, hkd, compd, hkindd⟩ := a2.2
          have hsrc : ∀ i, i < n.toNatClampNeg → cb.slots.getD (sp.toNatClampNeg + i) .null = mx_v B.2.1.1 (mx_get 13 tb (sp.toNatClampNeg + i)) := by
            intro i hi
            rw [Array.getD_eq_getD_getElem?, b6 _ (by omega)]; rfl
          intro T hT X
          obtain ⟨vm', X', step⟩ := X.arraycopy A.1 A.2.2.2.1 (A.2.2.2.2.1 _ hlink) (A.2.2.2.2.1 _ hnat) (A.2.2.2.2.1 _ hstat) (A.2.2.2.2.1 _ hini) (src := mx_rho B.2.1.1 b) (dst := mx_rho B.2.1.1 a) (cs := cb) (cd := cd) (srcPos := sp) (destPos := dp) (n := n) (by rw [hT]; exact b1) (by rw [hT]; exact a1)
            b2.1 a2.1 b3 a3 hkb hkd hkindb hkindd rfl p1 p2 p3
            (by rw [nn sp p1, nn n p3]; have := b4.1; omega)
            (by rw [nn dp p2, nn n p3]; have := a4.1; omega)
            (fun vm₁ _ i hi => by
              rw [hsrc i hi]
              have hI := mx_allI_at hb3 hi
              revert hI
              generalize mx_get 13 tb (sp.toNatClampNeg + i) = w
              intro hI
              cases w <;> first | exact ⟨rfl, trivial⟩ | cases hI)
            (g := F0 m pc la ((.int n :: .int dp :: .ref a :: .int sp :: .ref b :: rest : List Value).map (mx_v B.2.1.1))) rfl (by rw [A.2.2.1]; exact hl.1) (rest := rest.map (mx_v B.2.1.1)) rfl (by rw [A.2.1]; exact hd) (by show 1 ≤ d' + 1; omega) (by
              have hw : nativeFrameWords "java/lang/System" "arraycopy" 5 ≤ 40 := by decide +kernel
              show 2 * 0 + _ + _ ≤ 64 * (d' + 1)
              rw [mx_cat_sum]; omega)
          have hal : a < h.1 := (mx_cell_some hca).1
          have hle9 := hR.2.1
          have hheap : ((T.setVm vm').setCell (mx_rho B.2.1.1 a) (copied cb cd sp dp n)).heap = H.setIfInBounds (mx_rho B.2.1.1 a) (copied cb cd sp dp n) := by rw [← hT]; rfl
          have hlt : mx_rho B.2.1.1 a < H.size := (Array.getElem?_eq_some_iff.mp a1).1
          have hlen : (cb.stretch sp.toNatClampNeg n.toNatClampNeg).length = n.toNatClampNeg := Cell.stretch_length _ _ _
          obtain ⟨f1, f2, f3, f4, f5⟩ := Cell.storeRun_facts cd dp.toNatClampNeg (cb.stretch sp.toNatClampNeg n.toNatClampNeg)
          have hok : mx_ok B.2.1.1 s (H.setIfInBounds (mx_rho B.2.1.1 a) (copied cb cd sp dp n)) (mx_rho B.2.1.1 a) (.inr (.int, na, mx_cpA tb sp.toNatClampNeg dp.toNatClampNeg ta n.toNatClampNeg)) := by
            refine Or.inr ⟨(by intro h; cases h), copied cb cd sp dp n, by simp [Array.getElem?_setIfInBounds, hlt], ⟨fun k9 => by show (cd.storeRun _ _).vm ≠ _; rw [f2]; exact a2.1 k9, kd, by show s.vm.classes[(cd.storeRun _ _).cls]? = _; rw [f1]; exact hkd, compd, hkindd⟩, by show (cd.storeRun _ _).vm ≠ _; rw [f2]; exact a3, by show na ≤ (cd.storeRun _ _).slots.size ∧ (cd.storeRun _ _).slots.size.toInt32 = _; rw [f3]; exact a4, a5, fun j hj => ?_, fun C hC => by cases hC⟩
            rw [mx_cpA_get (by omega) _ (by omega)]
            show (cd.storeRun dp.toNatClampNeg (cb.stretch sp.toNatClampNeg n.toNatClampNeg)).slots[j]? = _
            rw [Cell.storeRun_get _ _ _ _ (by rw [hlen]; have := a4.1; omega), hlen]
            by_cases hq : dp.toNatClampNeg ≤ j ∧ j < dp.toNatClampNeg + n.toNatClampNeg
            · rw [if_pos hq, if_pos hq]
              unfold Cell.stretch
              rw [List.getElem?_map, List.getElem?_range (by omega)]
              show some (cb.slots.getD _ _) = _
              rw [hsrc _ (by omega)]
            · rw [if_neg hq, if_neg hq]; exact a6 j hj
          have hP := hR.put ha2 hal hok (by simp) (fun q hq => by simp [Array.getElem?_setIfInBounds, Ne.symm hq])
          obtain ⟨t, t1, t2⟩ := G.2 p e s m args below meth c hc hs _ _ la A h1 h2 hP (fun q hq => by
            rcases List.mem_append.mp hq with hq | hq
            · exact hL q hq
            · obtain ⟨z, -, hz⟩ := List.mem_map.mp hq
              rw [← hz]
              show _ ≤ mx_rho B.2.1.1 a
              rw [mx_rho_hi ha2 (Nat.lt_of_lt_of_le hal hle9)]; exact Nat.le_add_right _ _) hl _ hheap X'
          exact ⟨t, step t t1, t2⟩
        · cases e
      · cases e
    · cases e
  · cases e
end MXT
