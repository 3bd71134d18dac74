section MXT
variable {B : mx_B} {M : mx_M} {pc : Nat}
noncomputable def mx_nret (ty : FieldType) : mx_O := fun _ _ _ st h => match st with
  | [.int v] => if narrow ty (.int v) = .int v then some (some (.int v), h) else none
  | _ => none
theorem mx_s_nret {ty : FieldType} (hd : decode M.1 pc = .ok (.ireturn, 1)) (hr : M.2.2.2.2 = some ty) : mx_Sn B M pc (mx_nret ty) := by
  intro d k call hk hcall ls st h rr e
  unfold mx_nret at e
  split at e
  · split at e
    · rename_i hv
      cases e
      refine ⟨mx_le.rf h, fun p e s m args below meth c hc hs H locs la A h1 h2 hR hL hl => ?_⟩
      exact W.zret A.1 A.2.1 (A.2.2.2.2.2.1.trans hr) hv (fun t ht hW => ⟨rfl, by rw [ht]; exact mx_Rp.moved hW.alike hR⟩) hL hd A.2.2.2.2.2.2.1
    · cases e
  · cases e
end MXT
