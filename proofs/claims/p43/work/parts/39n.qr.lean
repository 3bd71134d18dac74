/-! what a reader of the model leaves behind, where nothing is wrong: shut, so that omega doesn't split it -/
section QRs
variable {X Y Z : xZ} {a d d1 d2 c c1 c2 k dl nd : Int}
def QR (Y Z : xZ) (a d c : Int) : Prop := Z 56 11 = 0 → (Y 56 11 = 0 ∧ Z 60 61 - Y 60 61 + c ≤ Z 56 6 - Y 56 6 ∧ DP Z a = DP Y a + d ∧ (MW Y a = 1 → 0 ≤ DP Y a → MW Z a = 1) ∧ (WFF Y = 1 → WFF Z = 1))
def QC (Z X : xZ) (a dl nd : Int) : Prop := Z 56 11 = 0 → (DP X a = DP Z a + dl ∧ (MW Z a = 1 → nd ≤ DP Z a → MW X a = 1) ∧ (WFF Z = 1 → WFF X = 1))
theorem QR_rf : QR Z Z a 0 0 := fun e => ⟨e, by omega, by omega, fun h _ => h, fun h => h⟩
theorem QR_f (h : ¬ Z 56 11 = 0) : QR Y Z a d c := fun e => absurd e h
theorem QR_le (h : QR Y Z a d c) (hc : c2 ≤ c) : QR Y Z a d c2 := fun e => by
  obtain ⟨h1, h2, h3, h4, h5⟩ := h e
  exact ⟨h1, by omega, h3, h4, h5⟩
theorem QR_tr (h1 : QR Y Z a d1 c1) (h2 : QR Z X a d2 c2) (h0 : 0 ≤ d1) (hd : d = d1 + d2) (hc : c = c1 + c2) : QR Y X a d c := fun e => by
  obtain ⟨g1, g2, g3, g4, g5⟩ := h2 e
  obtain ⟨f1, f2, f3, f4, f5⟩ := h1 g1
  exact ⟨f1, by omega, by omega, fun m n => g4 (f4 m n) (by omega), fun w => g5 (f5 w)⟩
theorem QR_g (h : QR Y Z a d c) (h11 : X 56 11 = 0 → Z 56 11 = 0) (e60 : ∀ i, X 60 i = Z 60 i) (hk : X 56 11 = 0 → Z 56 6 + k ≤ X 56 6) (hc : c2 = c + k) : QR Y X a d c2 := fun e => by
  obtain ⟨f1, f2, f3, f4, f5⟩ := h (h11 e)
  have := hk e
  refine ⟨f1, by rw [e60]; omega, by rw [DP_c e60]; exact f3, fun m n => by rw [MW_c e60]; exact f4 m n, fun w => by rw [WFF_c e60]; exact f5 w⟩
theorem QR_c (h : QR Y Z a d c) (hq : QC Z X a dl nd) (h61 : (¬ Z 56 11 = 0 ∧ X 60 61 = Z 60 61) ∨ (Z 56 11 = 0 ∧ X 60 61 = Z 60 61 + 1)) (e11 : X 56 11 = Z 56 11) (e6 : X 56 6 = Z 56 6) (hn : nd ≤ d) (hd : d2 = d + dl) (hc : c2 = c - 1) : QR Y X a d2 c2 := fun e => by
  rw [e11] at e
  obtain ⟨f1, f2, f3, f4, f5⟩ := h e
  obtain ⟨g1, g2, g3⟩ := hq e
  refine ⟨f1, by omega, by omega, fun m n => g2 (f4 m n) (by omega), fun w => g3 (f5 w)⟩
theorem QR_n (h : QR Y Z a d c) : Z 56 11 = 0 → Z 60 61 - Y 60 61 + c ≤ Z 56 6 - Y 56 6 := fun e => (h e).2.1
theorem QR_m (h : QR Y Z a d c) (hm : MW Y a = 1) (hp : DP Y a = 0) : Z 56 11 = 0 → (Y 56 11 = 0 ∧ MW Z a = 1 ∧ (WFF Y = 1 → WFF Z = 1)) := fun e => by
  obtain ⟨f1, f2, f3, f4, f5⟩ := h e
  exact ⟨f1, f4 hm (by omega), f5⟩
end QRs
theorem f57_f60 {r z : Int} (h : f60 r z) (h28 : r = 28 → 0 ≤ z ∧ z ≤ 9) : f57 r z := ⟨h.1, h.2.1, h.2.2.1, h.2.2.2.1, h.2.2.2.2.1, h.2.2.2.2.2.1, h28, h.2.2.2.2.2.2⟩
