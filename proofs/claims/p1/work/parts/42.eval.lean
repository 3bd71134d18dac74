/-- two calls that answer alike: what the law needs of them -/
def tw_lg (lng : Bool) (v : Value) : Prop := match lng with
  | true => ∃ x, v = .long x
  | false => ∃ x, v = .int x
def mx_Tw (B : mx_B) (lng : Bool) (mi1 mi2 : Nat) (as : List Value) : Prop := ∃ (v : Value) (q1 q2 : mx_H) (fs : List Value), mx_Ca B 30 mi1 (.ref 1 :: as) h_4 (some v, q1) ∧ mx_Ca B 30 mi2 (.ref 56 :: as) q1 (some v, q2) ∧ mx_cell q1 56 = some (.inl (12, fs)) ∧ q2.1 ≤ 512 ∧ q2.2.1 ≤ 1000000 ∧ tw_lg lng v
theorem ck2_ok {l : Launch} {D : va_G} {b0 : Nat} {ad : Nat → Nat} {Hb : Heap} {tau : Nat → Int64} {lng : Bool} {mi1 mi2 : Nat} {as : List Value} (h : ck2 lng mi1 mi2 as = true) : mx_Tw (tB l D b0 ad Hb tau) lng mi1 mi2 as := by
  unfold ck2 at h
  split at h
  · rename_i r1 hr1
    split at h
    · rename_i v hv
      split at h
      · rename_i r2 hr2
        split at h
        · rename_i w hw
          obtain ⟨h1, h2⟩ := mx_and h
          obtain ⟨h8, h2⟩ := mx_and h2
          obtain ⟨h9, h3⟩ := mx_and h2
          obtain ⟨fs, hfs⟩ := isc_ok h3
          have e1 : r1 = (some v, r1.2) := by rw [← hv]
          have e2 : r2 = (some w, r2.2) := by rw [← hw]
          have hvw : v = w ∧ tw_lg lng v := by
            unfold mx_same at h1
            split at h1
            · obtain ⟨k1, k2⟩ := mx_and h1
              cases lng
              · exact ⟨by rw [of_decide_eq_true k2], ⟨_, rfl⟩⟩
              · cases k1
            · obtain ⟨k1, k2⟩ := mx_and h1
              cases lng
              · cases k1
              · exact ⟨by rw [of_decide_eq_true k2], ⟨_, rfl⟩⟩
            · cases h1
          rw [e1] at hr1
          rw [e2, ← hvw.1] at hr2
          exact ⟨v, r1.2, r2.2, fs, mx_Ca.of (ev_all 1000000 30) hr1, mx_Ca.of (ev_all 1000000 30) hr2, hfs, Nat.ble_eq.mp h8, Nat.ble_eq.mp h9, hvw.2⟩
        · cases h
      · cases h
    · cases h
  · cases h
