/-! the judgement; an instruction is sound if it keeps it -/
/-- a method: code, locals, class, name, answer; all: launch, what is known, methods' names and words -/
abbrev mx_M : Type := ByteArray × Nat × String × String × Option FieldType
abbrev mx_B : Type := Launch × mx_Ev × (Nat → MethodName) × (Nat → List Cond)
def mx_At (B : mx_B) (M : mx_M) (p : Program) (s : State) (m : MethodId) (args : Array Value) (meth : Method) (c : Code) : Prop :=
  p.tables.exec = Jvm.exec ∧ c.code = M.1 ∧ c.maxLocals = M.2.1 ∧ s.vm.findClass M.2.2.1 = some m.cls ∧ (∀ w ∈ B.2.1.2.1, w.before args s = true) ∧ meth.sig.returnType = M.2.2.2.2 ∧ meth.locks = false ∧ meth.name = M.2.2.2.1 ∧ mx_KK B.2.1 s
def mx_G (B : mx_B) (M : mx_M) (d pc : Nat) (ls : mx_L) (st : List Value) (h : mx_H) (r : mx_R) : Prop :=
  mx_le h r.2 ∧ ∀ (p : Program) (e : Env) (s : State) (m : MethodId) (args : Array Value) (below : List Frame) (meth : Method) (c : Code) (hc hs : Nat) (H : Heap) (locs : List Loc) (la : Array Slot),
    mx_At B M p s m args meth c → hc ≤ h.1 → hs ≤ h.2.1 → mx_Rp B.2.1.1 s h H → (∀ q ∈ locs, mx_up B.2.1 q.base) → mx_ls B.2.1.1 la M.2.1 ls →
    W p B.1 e (mx_rm d (r.2.1 - hc) (r.2.2.1 - hs)) s m args below meth c H locs (h.1 - hc) (h.2.1 - hs) (MQ below (mx_Qc B.2.1 r) args s (r.2.1 - hc) (r.2.2.1 - hs) (mx_up B.2.1)) (F0 m pc la (st.map (mx_v B.2.1.1)))
def mx_Cl (B : mx_B) (d : Nat) (call : mx_F) : Prop := ∀ (mi : Nat) (as : List Value) (h : mx_H) (r : mx_R), call mi as h = some r → ∃ d', d = d' + 1 ∧ mx_le h r.2 ∧
  (¬ mi = 0 → Met B.1 (B.2.2.1 mi) (B.2.2.2 mi) (mx_rm d' (r.2.1 - h.1) (r.2.2.1 - h.2.1)) (mx_Pc B.2.1 as h) (mx_Qc B.2.1 r) (r.2.1 - h.1) (r.2.2.1 - h.2.1) (mx_up B.2.1))
def mx_Sn (B : mx_B) (M : mx_M) (pc : Nat) (o : mx_O) : Prop := ∀ (d : Nat) (k : mx_K) (call : mx_F), (∀ (pc : Nat) (ls : mx_L) (st : List Value) (h : mx_H) (r : mx_R), k pc ls st h = some r → mx_G B M d pc ls st h r) → mx_Cl B d call →
  ∀ (ls : mx_L) (st : List Value) (h : mx_H) (r : mx_R), o k call ls st h = some r → mx_G B M d pc ls st h r
section MXS
variable {B : mx_B} {M : mx_M} {d pc pc2 : Nat} {ls ls2 : mx_L} {st st2 : List Value} {h : mx_H} {r : mx_R}
theorem mx_G.step (hk : mx_G B M d pc2 ls st2 h r) (hw : ∀ (p : Program) (e : Env) (s : State) (m : MethodId) (args : Array Value) (below : List Frame) (meth : Method) (c : Code) (R : Room) (H : Heap) (locs : List Loc) (cells slots : Nat) (Q : State → Prop) (la : Array Slot),
    mx_At B M p s m args meth c → mx_ls B.2.1.1 la M.2.1 ls → W p B.1 e R s m args below meth c H locs cells slots Q (F0 m pc2 la (st2.map (mx_v B.2.1.1))) → W p B.1 e R s m args below meth c H locs cells slots Q (F0 m pc la (st.map (mx_v B.2.1.1)))) : mx_G B M d pc ls st h r :=
  ⟨hk.1, fun p e s m args below meth c hc hs H locs la A h1 h2 hR hL hl => hw p e s m args below meth c _ H locs _ _ _ la A hl (hk.2 p e s m args below meth c hc hs H locs la A h1 h2 hR hL hl)⟩
theorem mx_G.stepL (hk : mx_G B M d pc2 ls2 st2 h r) (hw : ∀ (p : Program) (e : Env) (s : State) (m : MethodId) (args : Array Value) (below : List Frame) (meth : Method) (c : Code) (R : Room) (H : Heap) (locs : List Loc) (cells slots : Nat) (Q : State → Prop) (la : Array Slot),
    mx_At B M p s m args meth c → mx_ls B.2.1.1 la M.2.1 ls → (∀ la2, mx_ls B.2.1.1 la2 M.2.1 ls2 → W p B.1 e R s m args below meth c H locs cells slots Q (F0 m pc2 la2 (st2.map (mx_v B.2.1.1)))) → W p B.1 e R s m args below meth c H locs cells slots Q (F0 m pc la (st.map (mx_v B.2.1.1)))) : mx_G B M d pc ls st h r :=
  ⟨hk.1, fun p e s m args below meth c hc hs H locs la A h1 h2 hR hL hl => hw p e s m args below meth c _ H locs _ _ _ la A hl (fun la2 hl2 => hk.2 p e s m args below meth c hc hs H locs la2 A h1 h2 hR hL hl2)⟩
theorem mx_s_stuck : mx_Sn B M pc mx_stuck := fun _ _ _ _ _ _ _ _ _ e => by cases e
theorem mx_s_node {k : Nat} {l r : Nat → mx_O} (hl : ∀ pc, mx_Sn B M pc (l pc)) (hr : ∀ pc, mx_Sn B M pc (r pc)) : ∀ pc, mx_Sn B M pc (mx_node k l r pc) := by
  intro pc
  unfold mx_node
  cases Nat.blt pc k
  · exact hr pc
  · exact hl pc
theorem mx_s_leaf {k : Nat} {o : mx_O} (h : mx_Sn B M k o) : ∀ pc, mx_Sn B M pc (mx_leaf k o pc) := by
  intro pc
  unfold mx_leaf
  cases hb : Nat.beq pc k with
  | false => exact mx_s_stuck
  | true => rw [Nat.eq_of_beq_eq_true hb]; exact h
theorem mx_run_ok {tab : Nat → mx_O} {call : mx_F} (ht : ∀ pc, mx_Sn B M pc (tab pc)) (hc : mx_Cl B d call) : ∀ (n pc : Nat) (ls : mx_L) (st : List Value) (h : mx_H) (r : mx_R), mx_run tab call n pc ls st h = some r → mx_G B M d pc ls st h r
  | 0, _, _, _, _, _, e => by cases e
  | n + 1, pc, ls, st, h, r, e => ht pc d (mx_run tab call n) call (fun pc ls st h r e => mx_run_ok ht hc n pc ls st h r e) hc ls st h r e
theorem mx_s_iconst {n : Int} {v : Int32} (hv : Int32.ofInt n = v) (hd : decode M.1 pc = .ok (.iconst n, 1)) : mx_Sn B M pc (mx_const (.int v) (pc + 1)) := by
  intro d k call hk hc ls st h r e
  exact mx_G.step (hk _ _ _ _ _ e) (fun p e s m args below meth c R H locs cells slots Q la A hl K => lv_iconst A.1 A.2.1 hd hv K)
theorem mx_s_bipush {n : Int} {v : Int32} (hv : (Int8.ofInt n).toInt32 = v) (hd : decode M.1 pc = .ok (.bipush n, 2)) : mx_Sn B M pc (mx_const (.int v) (pc + 2)) := by
  intro d k call hk hc ls st h r e
  exact mx_G.step (hk _ _ _ _ _ e) (fun p e s m args below meth c R H locs cells slots Q la A hl K => lv_bipush A.1 A.2.1 hd hv K)
theorem mx_s_sipush {n : Int} {v : Int32} (hv : (Int16.ofInt n).toInt32 = v) (hd : decode M.1 pc = .ok (.sipush n, 3)) : mx_Sn B M pc (mx_const (.int v) (pc + 3)) := by
  intro d k call hk hc ls st h r e
  exact mx_G.step (hk _ _ _ _ _ e) (fun p e s m args below meth c R H locs cells slots Q la A hl K => lv_sipush A.1 A.2.1 hd hv K)
theorem mx_s_lconst {n : Fin 2} {v : Int64} (hv : Int64.ofNat (n : Nat) = v) (hd : decode M.1 pc = .ok (.lconst n, 1)) : mx_Sn B M pc (mx_const (.long v) (pc + 1)) := by
  intro d k call hk hc ls st h r e
  exact mx_G.step (hk _ _ _ _ _ e) (fun p e s m args below meth c R H locs cells slots Q la A hl K => lv_lconst A.1 A.2.1 hd hv K)
theorem mx_s_ldc {i : Nat} {v : Int32} (hw : Jvm.Cond.constant M.2.2.1 i v ∈ B.2.1.2.1) (hd : decode M.1 pc = .ok (.ldc i, 2)) : mx_Sn B M pc (mx_const (.int v) (pc + 2)) := by
  intro d k call hk hc ls st h r e
  exact mx_G.step (hk _ _ _ _ _ e) (fun p e s m args below meth c R H locs cells slots Q la A hl K => W.ldc A.1 A.2.1 A.2.2.2.1 (A.2.2.2.2.1 _ hw) rfl hd K)
theorem mx_s_ldc2 {i : Nat} {v : Int64} (hw : Jvm.Cond.constantLong M.2.2.1 i v ∈ B.2.1.2.1) (hd : decode M.1 pc = .ok (.ldc2_w i, 3)) : mx_Sn B M pc (mx_const (.long v) (pc + 3)) := by
  intro d k call hk hc ls st h r e
  exact mx_G.step (hk _ _ _ _ _ e) (fun p e s m args below meth c R H locs cells slots Q la A hl K => W.ldc2 A.1 A.2.1 A.2.2.2.1 (A.2.2.2.2.1 _ hw) rfl hd K)
theorem mx_s_null (hd : decode M.1 pc = .ok (.aconst_null, 1)) : mx_Sn B M pc (mx_const .null (pc + 1)) := by
  intro d k call hk hc ls st h r e
  exact mx_G.step (hk _ _ _ _ _ e) (fun p e s m args below meth c R H locs cells slots Q la A hl K => lv_null A.1 A.2.1 hd K)
theorem mx_s_iload {i : Nat} (hd : decode M.1 pc = .ok (.iload i, 2)) : mx_Sn B M pc (mx_iload i (pc + 2)) := by
  intro d k call hk hc ls st h r e
  unfold mx_iload at e
  split at e
  · rename_i x hx
    exact mx_G.step (hk _ _ _ _ _ e) (fun p e s m args below meth c R H locs cells slots Q la A hl K => lv_iload A.1 A.2.1 hd (hl.2.2.2 _ _ (mx_lg_some hx)) K)
  · rename_i x hx
    exact mx_G.step (hk _ _ _ _ _ e) (fun p e s m args below meth c R H locs cells slots Q la A hl K => lv_iload A.1 A.2.1 hd (hl.2.2.2 _ _ (mx_lg_some hx)) K)
  · cases e
theorem mx_s_iload_n {j : Fin 4} {i : Nat} (hd : decode M.1 pc = .ok (.iload_n j, 1)) (hj : (j : Nat) = i) : mx_Sn B M pc (mx_iload i (pc + 1)) := by
  intro d k call hk hc ls st h r e
  unfold mx_iload at e
  split at e
  · rename_i x hx
    exact mx_G.step (hk _ _ _ _ _ e) (fun p e s m args below meth c R H locs cells slots Q la A hl K => lv_iload_n A.1 A.2.1 hd hj (hl.2.2.2 _ _ (mx_lg_some hx)) K)
  · rename_i x hx
    exact mx_G.step (hk _ _ _ _ _ e) (fun p e s m args below meth c R H locs cells slots Q la A hl K => lv_iload_n A.1 A.2.1 hd hj (hl.2.2.2 _ _ (mx_lg_some hx)) K)
  · cases e
theorem mx_s_lload {i : Nat} (hd : decode M.1 pc = .ok (.lload i, 2)) : mx_Sn B M pc (mx_lload i (pc + 2)) := by
  intro d k call hk hc ls st h r e
  unfold mx_lload at e
  split at e
  · rename_i x hx
    exact mx_G.step (hk _ _ _ _ _ e) (fun p e s m args below meth c R H locs cells slots Q la A hl K => lv_lload A.1 A.2.1 hd (hl.2.2.2 _ _ (mx_lg_some hx)) K)
  · rename_i x hx
    exact mx_G.step (hk _ _ _ _ _ e) (fun p e s m args below meth c R H locs cells slots Q la A hl K => lv_lload A.1 A.2.1 hd (hl.2.2.2 _ _ (mx_lg_some hx)) K)
  · cases e
theorem mx_s_lload_n {j : Fin 4} {i : Nat} (hd : decode M.1 pc = .ok (.lload_n j, 1)) (hj : (j : Nat) = i) : mx_Sn B M pc (mx_lload i (pc + 1)) := by
  intro d k call hk hc ls st h r e
  unfold mx_lload at e
  split at e
  · rename_i x hx
    exact mx_G.step (hk _ _ _ _ _ e) (fun p e s m args below meth c R H locs cells slots Q la A hl K => lv_lload_n A.1 A.2.1 hd hj (hl.2.2.2 _ _ (mx_lg_some hx)) K)
  · rename_i x hx
    exact mx_G.step (hk _ _ _ _ _ e) (fun p e s m args below meth c R H locs cells slots Q la A hl K => lv_lload_n A.1 A.2.1 hd hj (hl.2.2.2 _ _ (mx_lg_some hx)) K)
  · cases e
theorem mx_s_aload {i : Nat} (hd : decode M.1 pc = .ok (.aload i, 2)) : mx_Sn B M pc (mx_aload i (pc + 2)) := by
  intro d k call hk hc ls st h r e
  unfold mx_aload at e
  split at e
  · rename_i x hx
    exact mx_G.step (hk _ _ _ _ _ e) (fun p e s m args below meth c R H locs cells slots Q la A hl K => lv_aload A.1 A.2.1 hd (hl.2.2.2 _ _ (mx_lg_some hx)) K)
  · rename_i hx
    exact mx_G.step (hk _ _ _ _ _ e) (fun p e s m args below meth c R H locs cells slots Q la A hl K => lv_aloadN A.1 A.2.1 hd (hl.2.2.2 _ _ (mx_lg_some hx)) K)
  · cases e
theorem mx_s_aload_n {j : Fin 4} {i : Nat} (hd : decode M.1 pc = .ok (.aload_n j, 1)) (hj : (j : Nat) = i) : mx_Sn B M pc (mx_aload i (pc + 1)) := by
  intro d k call hk hc ls st h r e
  unfold mx_aload at e
  split at e
  · rename_i x hx
    exact mx_G.step (hk _ _ _ _ _ e) (fun p e s m args below meth c R H locs cells slots Q la A hl K => lv_aload_n A.1 A.2.1 hd hj (hl.2.2.2 _ _ (mx_lg_some hx)) K)
  · rename_i hx
    exact mx_G.step (hk _ _ _ _ _ e) (fun p e s m args below meth c R H locs cells slots Q la A hl K => lv_aload_nN A.1 A.2.1 hd hj (hl.2.2.2 _ _ (mx_lg_some hx)) K)
  · cases e
theorem mx_blt {a b : Nat} (h : Nat.blt a b = true) : a < b := by
  have := Nat.ble_eq.mp (show Nat.ble (a + 1) b = true from h); omega
theorem mx_bt {α : Type} {b : Bool} {x : Option α} {y : α} (e : (bif b then x else none) = some y) : b = true ∧ x = some y := by
  cases b
  · cases e
  · exact ⟨rfl, e⟩
theorem mx_bf {α : Type} {b : Bool} {x : Option α} {y : α} (e : (bif b then none else x) = some y) : b = false ∧ x = some y := by
  cases b
  · exact ⟨rfl, e⟩
  · cases e
theorem mx_s_istore {i : Nat} (hd : decode M.1 pc = .ok (.istore i, 2)) : mx_Sn B M pc (mx_istore i (pc + 2)) := by
  intro d k call hk hc ls st h r e
  unfold mx_istore at e
  split at e
  · rename_i x rr
    obtain ⟨hb, e⟩ := mx_bt e
    have hb2 := mx_blt hb
    exact mx_G.stepL (hk _ _ _ _ _ e) (fun p e s m args below meth c R H locs cells slots Q la A hl K => lv_istore A.1 A.2.1 hd hl.has (by rw [← hl.2.2.1]; exact hb2) rfl (fun la2 h2 => K la2 (mx_st1_ls (v := .int x) hl.2.2.1 h2)))
  · rename_i x rr
    obtain ⟨hb, e⟩ := mx_bt e
    have hb2 := mx_blt hb
    exact mx_G.stepL (hk _ _ _ _ _ e) (fun p e s m args below meth c R H locs cells slots Q la A hl K => lv_istore A.1 A.2.1 hd hl.has (by rw [← hl.2.2.1]; exact hb2) rfl (fun la2 h2 => K la2 (mx_st1_ls (v := .float x) hl.2.2.1 h2)))
  · cases e
theorem mx_s_istore_n {j : Fin 4} {i : Nat} (hd : decode M.1 pc = .ok (.istore_n j, 1)) (hj : (j : Nat) = i) : mx_Sn B M pc (mx_istore i (pc + 1)) := by
  intro d k call hk hc ls st h r e
  unfold mx_istore at e
  split at e
  · rename_i x rr
    obtain ⟨hb, e⟩ := mx_bt e
    have hb2 := mx_blt hb
    exact mx_G.stepL (hk _ _ _ _ _ e) (fun p e s m args below meth c R H locs cells slots Q la A hl K => lv_istore_n A.1 A.2.1 hd hj hl.has (by rw [← hl.2.2.1]; exact hb2) rfl (fun la2 h2 => K la2 (mx_st1_ls (v := .int x) hl.2.2.1 h2)))
  · rename_i x rr
    obtain ⟨hb, e⟩ := mx_bt e
    have hb2 := mx_blt hb
    exact mx_G.stepL (hk _ _ _ _ _ e) (fun p e s m args below meth c R H locs cells slots Q la A hl K => lv_istore_n A.1 A.2.1 hd hj hl.has (by rw [← hl.2.2.1]; exact hb2) rfl (fun la2 h2 => K la2 (mx_st1_ls (v := .float x) hl.2.2.1 h2)))
  · cases e
theorem mx_s_astore {i : Nat} (hd : decode M.1 pc = .ok (.astore i, 2)) : mx_Sn B M pc (mx_astore i (pc + 2)) := by
  intro d k call hk hc ls st h r e
  unfold mx_astore at e
  split at e
  · rename_i x rr
    obtain ⟨hb, e⟩ := mx_bt e
    have hb2 := mx_blt hb
    exact mx_G.stepL (hk _ _ _ _ _ e) (fun p e s m args below meth c R H locs cells slots Q la A hl K => lv_astore A.1 A.2.1 hd hl.has (by rw [← hl.2.2.1]; exact hb2) rfl (fun la2 h2 => K la2 (mx_st1_ls (v := .ref x) hl.2.2.1 h2)))
  · cases e
theorem mx_s_astore_n {j : Fin 4} {i : Nat} (hd : decode M.1 pc = .ok (.astore_n j, 1)) (hj : (j : Nat) = i) : mx_Sn B M pc (mx_astore i (pc + 1)) := by
  intro d k call hk hc ls st h r e
  unfold mx_astore at e
  split at e
  · rename_i x rr
    obtain ⟨hb, e⟩ := mx_bt e
    have hb2 := mx_blt hb
    exact mx_G.stepL (hk _ _ _ _ _ e) (fun p e s m args below meth c R H locs cells slots Q la A hl K => lv_astore_n A.1 A.2.1 hd hj hl.has (by rw [← hl.2.2.1]; exact hb2) rfl (fun la2 h2 => K la2 (mx_st1_ls (v := .ref x) hl.2.2.1 h2)))
  · cases e
theorem mx_s_lstore {i : Nat} (hd : decode M.1 pc = .ok (.lstore i, 2)) : mx_Sn B M pc (mx_lstore i (pc + 2)) := by
  intro d k call hk hc ls st h r e
  unfold mx_lstore at e
  split at e
  · rename_i x rr
    obtain ⟨hb, e⟩ := mx_bt e
    have hb2 := mx_blt hb
    exact mx_G.stepL (hk _ _ _ _ _ e) (fun p e s m args below meth c R H locs cells slots Q la A hl K => lv_lstore A.1 A.2.1 hd hl.has (by rw [← hl.2.2.1]; exact hb2) rfl (fun la2 h2 => K la2 (mx_st2_ls (v := .long x) hl.2.2.1 h2)))
  · rename_i x rr
    obtain ⟨hb, e⟩ := mx_bt e
    have hb2 := mx_blt hb
    exact mx_G.stepL (hk _ _ _ _ _ e) (fun p e s m args below meth c R H locs cells slots Q la A hl K => lv_lstore A.1 A.2.1 hd hl.has (by rw [← hl.2.2.1]; exact hb2) rfl (fun la2 h2 => K la2 (mx_st2_ls (v := .double x) hl.2.2.1 h2)))
  · cases e
theorem mx_s_lstore_n {j : Fin 4} {i : Nat} (hd : decode M.1 pc = .ok (.lstore_n j, 1)) (hj : (j : Nat) = i) : mx_Sn B M pc (mx_lstore i (pc + 1)) := by
  intro d k call hk hc ls st h r e
  unfold mx_lstore at e
  split at e
  · rename_i x rr
    obtain ⟨hb, e⟩ := mx_bt e
    have hb2 := mx_blt hb
    exact mx_G.stepL (hk _ _ _ _ _ e) (fun p e s m args below meth c R H locs cells slots Q la A hl K => lv_lstore_n A.1 A.2.1 hd hj hl.has (by rw [← hl.2.2.1]; exact hb2) rfl (fun la2 h2 => K la2 (mx_st2_ls (v := .long x) hl.2.2.1 h2)))
  · rename_i x rr
    obtain ⟨hb, e⟩ := mx_bt e
    have hb2 := mx_blt hb
    exact mx_G.stepL (hk _ _ _ _ _ e) (fun p e s m args below meth c R H locs cells slots Q la A hl K => lv_lstore_n A.1 A.2.1 hd hj hl.has (by rw [← hl.2.2.1]; exact hb2) rfl (fun la2 h2 => K la2 (mx_st2_ls (v := .double x) hl.2.2.1 h2)))
  · cases e
theorem mx_s_iinc {i : Nat} {n : Int} {v : Int32} (hd : decode M.1 pc = .ok (.iinc i n, 3)) (hv : Int32.ofInt n = v) : mx_Sn B M pc (mx_iinc i v (pc + 3)) := by
  intro d k call hk hc ls st h r e
  unfold mx_iinc at e
  split at e
  · rename_i x hx
    obtain ⟨hb, e⟩ := mx_bt e
    have hb2 := mx_blt hb
    refine mx_G.stepL (hk _ _ _ _ _ e) (fun p e s m args below meth c R H locs cells slots Q la A hl K => ?_)
    obtain ⟨q, hq⟩ := List.getElem?_of_mem (mx_asc_mem (E := B.2.1.1).mpr ⟨_, mx_lg_some hx, rfl⟩)
    exact lv_iinc A.1 A.2.1 hd hl.has hq (by rw [hv]) (by rw [← hl.2.2.1]; exact hb2) rfl (fun la2 h2 => K la2 (mx_st1_ls (v := .int (x + v)) hl.2.2.1 h2))
  · cases e
theorem mx_an {a b : Bool} (h : (a && b) = true) : a = true ∧ b = true := by
  cases a <;> cases b <;> first | exact ⟨rfl, rfl⟩ | cases h
theorem mx_fl_lo {tau : Nat → Int64} {t : Nat} (h : t < 65536) : mx_fl tau t = (tau t).toInt32 := by
  unfold mx_fl
  rw [if_pos h]
theorem mx_fl_hi {tau : Nat → Int64} {t c : Nat} (h : t < 65536) (hc : 1 ≤ c) : mx_fl tau (t + 65536 * c) = mx_ap c (tau t).toInt32 := by
  unfold mx_fl
  rw [if_neg (by omega), show (t + 65536 * c) / 65536 = c by omega, show (t + 65536 * c) % 65536 = t by omega]
theorem mx_dv_nat {t : UInt32} {c : Nat} (h : t.toNat + 65536 * c < 4294967296) : (mx_dv t c).toNat = t.toNat + 65536 * c := by
  unfold mx_dv
  exact UInt32.toNat_ofNat_of_lt (by have h9 : UInt32.size = 4294967296 := rfl; omega)
theorem mx_sx_ok {y : Int32} {n : Nat} (h : mx_sx y = some n) : n < 4 ∧ mx_sy n = y := by
  unfold mx_sx at h
  split at h
  · rename_i hy; cases h; exact ⟨by decide, hy.symm⟩
  · split at h
    · rename_i hy; cases h; exact ⟨by decide, hy.symm⟩
    · split at h
      · rename_i hy; cases h; exact ⟨by decide, hy.symm⟩
      · split at h
        · rename_i hy; cases h; exact ⟨by decide, hy.symm⟩
        · cases h
theorem mx_ap_1 {n : Nat} {x : Int32} (h : n < 4) : mx_ap (1 + n) x = x >>> (mx_sy n &&& 31) := by
  match n, h with
  | 0, _ => rfl
  | 1, _ => rfl
  | 2, _ => rfl
  | 3, _ => rfl
theorem mx_ap_5 {n : Nat} {x : Int32} (h : n < 4) : mx_ap (5 + n) x = (x.toUInt32 >>> ((mx_sy n).toUInt32 &&& Int32.toUInt32 31)).toInt32 := by
  match n, h with
  | 0, _ => rfl
  | 1, _ => rfl
  | 2, _ => rfl
  | 3, _ => rfl
theorem mx_ap_9 {c : Nat} {x : Int32} (h1 : 1 ≤ c) (h2 : c < 5) : mx_ap (c + 8) x = mx_ap c x &&& 255 := by
  match c, h1, h2 with
  | 1, _, _ => rfl
  | 2, _, _ => rfl
  | 3, _, _ => rfl
  | 4, _, _ => rfl
theorem mx_ap_13 {c : Nat} {x : Int32} (h1 : 5 ≤ c) (h2 : c < 9) : mx_ap (c + 8) x = (mx_ap c x).toInt8.toInt32 := by
  match c, h1, h2 with
  | 5, _, _ => rfl
  | 6, _, _ => rfl
  | 7, _, _ => rfl
  | 8, _, _ => rfl
theorem mx_ap_b {c : Nat} {x : Int32} (h1 : 13 ≤ c) (h2 : c < 17) : (mx_ap c x).toInt8.toInt32 = mx_ap c x := by
  obtain ⟨c, rfl⟩ : ∃ q, c = q + 8 := ⟨c - 8, by omega⟩
  rw [mx_ap_13 (by omega) (by omega), Int8.toInt8_toInt32]
theorem mx_fl_split {tau : Nat → Int64} {t : Nat} (h : 1 ≤ t / 65536) : mx_fl tau t = mx_ap (t / 65536) (tau (t % 65536)).toInt32 := by
  unfold mx_fl
  rw [if_neg (by omega)]
theorem mx_fl_sh {tau : Nat → Int64} {t : UInt32} {n c : Nat} (h : t.toNat < 65536) (hn : n < 4) (hc : 1 ≤ c ∧ c ≤ 5) : mx_fl tau (mx_dv t (c + n)).toNat = mx_ap (c + n) (mx_fl tau t.toNat) := by
  rw [mx_dv_nat (by omega), mx_fl_hi h (by omega), mx_fl_lo h]
theorem mx_fl_8 {tau : Nat → Int64} {t : UInt32} (h1 : 1 ≤ t.toNat / 65536) (h2 : t.toNat / 65536 < 9) : mx_fl tau (mx_dv t 8).toNat = mx_ap (t.toNat / 65536 + 8) (tau (t.toNat % 65536)).toInt32 := by
  have h := t.toNat_lt
  rw [mx_dv_nat (by omega), mx_fl_split (by omega), show (t.toNat + 65536 * 8) / 65536 = t.toNat / 65536 + 8 by omega, show (t.toNat + 65536 * 8) % 65536 = t.toNat % 65536 by omega]
theorem mx_fl_b {tau : Nat → Int64} {t : Nat} (h1 : 13 ≤ t / 65536) (h2 : t / 65536 < 17) : (mx_fl tau t).toInt8.toInt32 = mx_fl tau t := by
  rw [mx_fl_split (by omega), mx_ap_b h1 h2]
theorem mx_s_iadd (hd : decode M.1 pc = .ok (.iadd, 1)) : mx_Sn B M pc (mx_iadd (pc + 1)) := by
  intro d k call hk hc ls st h r e
  unfold mx_iadd at e
  split at e
  · exact mx_G.step (hk _ _ _ _ _ e) (fun p e s m args below meth c R H locs cells slots Q la A hl K => lv_iadd A.1 A.2.1 hd K)
  · cases e
theorem mx_s_isub (hd : decode M.1 pc = .ok (.isub, 1)) : mx_Sn B M pc (mx_isub (pc + 1)) := by
  intro d k call hk hc ls st h r e
  unfold mx_isub at e
  split at e
  · exact mx_G.step (hk _ _ _ _ _ e) (fun p e s m args below meth c R H locs cells slots Q la A hl K => lv_isub A.1 A.2.1 hd K)
  · cases e
theorem mx_s_imul (hd : decode M.1 pc = .ok (.imul, 1)) : mx_Sn B M pc (mx_imul (pc + 1)) := by
  intro d k call hk hc ls st h r e
  unfold mx_imul at e
  split at e
  · exact mx_G.step (hk _ _ _ _ _ e) (fun p e s m args below meth c R H locs cells slots Q la A hl K => lv_imul A.1 A.2.1 hd K)
  · cases e
theorem mx_s_iand (hd : decode M.1 pc = .ok (.iand, 1)) : mx_Sn B M pc (mx_iand (pc + 1)) := by
  intro d k call hk hc ls st h r e
  unfold mx_iand at e
  split at e
  · exact mx_G.step (hk _ _ _ _ _ e) (fun p e s m args below meth c R H locs cells slots Q la A hl K => lv_iand A.1 A.2.1 hd K)
  · rename_i y t rest
    split at e
    · rename_i hy
      subst hy
      replace e := mx_bt e
      obtain ⟨hb, e⟩ := e
      obtain ⟨hb1, hb2⟩ := mx_an hb
      have hb3 := Nat.ble_eq.mp hb1
      have hb4 := mx_blt hb2
      have hv : mx_v B.2.1.1 (.float (mx_dv t 8)) = .int ((mx_fl B.2.1.1.2.2.2.2.2.2 t.toNat) &&& 255) := by
        show Value.int (mx_fl B.2.1.1.2.2.2.2.2.2 (mx_dv t 8).toNat) = _
        rw [mx_fl_8 (by omega) (by omega), mx_ap_9 hb3 hb4, ← mx_fl_split (by omega)]
      refine mx_G.step (hk _ _ _ _ _ e) (fun p e s m args below meth c R H locs cells slots Q la A hl K => lv_iand A.1 A.2.1 hd ?_)
      have K2 := K
      simp only [List.map_cons, hv] at K2
      exact K2
    · cases e
  · cases e
theorem mx_s_ior (hd : decode M.1 pc = .ok (.ior, 1)) : mx_Sn B M pc (mx_ior (pc + 1)) := by
  intro d k call hk hc ls st h r e
  unfold mx_ior at e
  split at e
  · exact mx_G.step (hk _ _ _ _ _ e) (fun p e s m args below meth c R H locs cells slots Q la A hl K => lv_ior A.1 A.2.1 hd K)
  · cases e
theorem mx_s_ixor (hd : decode M.1 pc = .ok (.ixor, 1)) : mx_Sn B M pc (mx_ixor (pc + 1)) := by
  intro d k call hk hc ls st h r e
  unfold mx_ixor at e
  split at e
  · exact mx_G.step (hk _ _ _ _ _ e) (fun p e s m args below meth c R H locs cells slots Q la A hl K => lv_ixor A.1 A.2.1 hd K)
  · cases e
theorem mx_s_ishl (hd : decode M.1 pc = .ok (.ishl, 1)) : mx_Sn B M pc (mx_ishl (pc + 1)) := by
  intro d k call hk hc ls st h r e
  unfold mx_ishl at e
  split at e
  · exact mx_G.step (hk _ _ _ _ _ e) (fun p e s m args below meth c R H locs cells slots Q la A hl K => lv_ishl A.1 A.2.1 hd K)
  · cases e
theorem mx_s_ishr (hd : decode M.1 pc = .ok (.ishr, 1)) : mx_Sn B M pc (mx_ishr (pc + 1)) := by
  intro d k call hk hc ls st h r e
  unfold mx_ishr at e
  split at e
  · exact mx_G.step (hk _ _ _ _ _ e) (fun p e s m args below meth c R H locs cells slots Q la A hl K => lv_ishr A.1 A.2.1 hd K)
  · rename_i y t rest
    replace e := mx_bt e
    obtain ⟨hb, e⟩ := e
    have hb2 := mx_blt hb
    split at e
    · rename_i n hn
      obtain ⟨hn4, hy⟩ := mx_sx_ok hn
      have hv : mx_v B.2.1.1 (.float (mx_dv t (1 + n))) = .int ((mx_fl B.2.1.1.2.2.2.2.2.2 t.toNat) >>> (y &&& 31)) := by
        show Value.int (mx_fl B.2.1.1.2.2.2.2.2.2 (mx_dv t (1 + n)).toNat) = _
        rw [mx_fl_sh hb2 hn4 (by omega), mx_ap_1 hn4, hy]
      refine mx_G.step (hk _ _ _ _ _ e) (fun p e s m args below meth c R H locs cells slots Q la A hl K => lv_ishr A.1 A.2.1 hd ?_)
      have K2 := K
      simp only [List.map_cons, hv] at K2
      exact K2
    · cases e
  · cases e
theorem mx_s_ladd (hd : decode M.1 pc = .ok (.ladd, 1)) : mx_Sn B M pc (mx_ladd (pc + 1)) := by
  intro d k call hk hc ls st h r e
  unfold mx_ladd at e
  split at e
  · exact mx_G.step (hk _ _ _ _ _ e) (fun p e s m args below meth c R H locs cells slots Q la A hl K => lv_ladd A.1 A.2.1 hd K)
  · cases e
theorem mx_s_lmul (hd : decode M.1 pc = .ok (.lmul, 1)) : mx_Sn B M pc (mx_lmul (pc + 1)) := by
  intro d k call hk hc ls st h r e
  unfold mx_lmul at e
  split at e
  · exact mx_G.step (hk _ _ _ _ _ e) (fun p e s m args below meth c R H locs cells slots Q la A hl K => lv_lmul A.1 A.2.1 hd K)
  · cases e
theorem mx_s_land (hd : decode M.1 pc = .ok (.land, 1)) : mx_Sn B M pc (mx_land (pc + 1)) := by
  intro d k call hk hc ls st h r e
  unfold mx_land at e
  split at e
  · exact mx_G.step (hk _ _ _ _ _ e) (fun p e s m args below meth c R H locs cells slots Q la A hl K => lv_land A.1 A.2.1 hd K)
  · cases e
theorem mx_s_lor (hd : decode M.1 pc = .ok (.lor, 1)) : mx_Sn B M pc (mx_lor (pc + 1)) := by
  intro d k call hk hc ls st h r e
  unfold mx_lor at e
  split at e
  · exact mx_G.step (hk _ _ _ _ _ e) (fun p e s m args below meth c R H locs cells slots Q la A hl K => lv_lor A.1 A.2.1 hd K)
  · cases e
theorem mx_s_lxor (hd : decode M.1 pc = .ok (.lxor, 1)) : mx_Sn B M pc (mx_lxor (pc + 1)) := by
  intro d k call hk hc ls st h r e
  unfold mx_lxor at e
  split at e
  · exact mx_G.step (hk _ _ _ _ _ e) (fun p e s m args below meth c R H locs cells slots Q la A hl K => lv_lxor A.1 A.2.1 hd K)
  · cases e
theorem mx_s_ineg (hd : decode M.1 pc = .ok (.ineg, 1)) : mx_Sn B M pc (mx_ineg (pc + 1)) := by
  intro d k call hk hc ls st h r e
  unfold mx_ineg at e
  split at e
  · exact mx_G.step (hk _ _ _ _ _ e) (fun p e s m args below meth c R H locs cells slots Q la A hl K => lv_ineg A.1 A.2.1 hd K)
  · cases e
theorem mx_s_lneg (hd : decode M.1 pc = .ok (.lneg, 1)) : mx_Sn B M pc (mx_lneg (pc + 1)) := by
  intro d k call hk hc ls st h r e
  unfold mx_lneg at e
  split at e
  · exact mx_G.step (hk _ _ _ _ _ e) (fun p e s m args below meth c R H locs cells slots Q la A hl K => lv_lneg A.1 A.2.1 hd K)
  · cases e
theorem mx_s_iushr (hd : decode M.1 pc = .ok (.iushr, 1)) : mx_Sn B M pc (mx_iushr (pc + 1)) := by
  intro d k call hk hc ls st h r e
  unfold mx_iushr at e
  split at e
  · exact mx_G.step (hk _ _ _ _ _ e) (fun p e s m args below meth c R H locs cells slots Q la A hl K => lv_iushr A.1 A.2.1 hd rfl K)
  · rename_i y t rest
    replace e := mx_bt e
    obtain ⟨hb, e⟩ := e
    have hb2 := mx_blt hb
    split at e
    · rename_i n hn
      obtain ⟨hn4, hy⟩ := mx_sx_ok hn
      have hv : mx_v B.2.1.1 (.float (mx_dv t (5 + n))) = .int (((mx_fl B.2.1.1.2.2.2.2.2.2 t.toNat).toUInt32 >>> (y.toUInt32 &&& Int32.toUInt32 31)).toInt32) := by
        show Value.int (mx_fl B.2.1.1.2.2.2.2.2.2 (mx_dv t (5 + n)).toNat) = _
        rw [mx_fl_sh hb2 hn4 (by omega), mx_ap_5 hn4, hy]
      refine mx_G.step (hk _ _ _ _ _ e) (fun p e s m args below meth c R H locs cells slots Q la A hl K => lv_iushr A.1 A.2.1 hd rfl ?_)
      have K2 := K
      simp only [List.map_cons, hv] at K2
      exact K2
    · cases e
  · cases e
theorem mx_s_lshl (hd : decode M.1 pc = .ok (.lshl, 1)) : mx_Sn B M pc (mx_lshl (pc + 1)) := by
  intro d k call hk hc ls st h r e
  unfold mx_lshl at e
  split at e
  · exact mx_G.step (hk _ _ _ _ _ e) (fun p e s m args below meth c R H locs cells slots Q la A hl K => lv_lshl A.1 A.2.1 hd rfl K)
  · cases e
theorem mx_s_lshr (hd : decode M.1 pc = .ok (.lshr, 1)) : mx_Sn B M pc (mx_lshr (pc + 1)) := by
  intro d k call hk hc ls st h r e
  unfold mx_lshr at e
  split at e
  · exact mx_G.step (hk _ _ _ _ _ e) (fun p e s m args below meth c R H locs cells slots Q la A hl K => lv_lshr A.1 A.2.1 hd rfl K)
  · cases e
theorem mx_s_lushr (hd : decode M.1 pc = .ok (.lushr, 1)) : mx_Sn B M pc (mx_lushr (pc + 1)) := by
  intro d k call hk hc ls st h r e
  unfold mx_lushr at e
  split at e
  · exact mx_G.step (hk _ _ _ _ _ e) (fun p e s m args below meth c R H locs cells slots Q la A hl K => lv_lushr A.1 A.2.1 hd rfl K)
  · cases e
theorem mx_s_l2i (hd : decode M.1 pc = .ok (.l2i, 1)) : mx_Sn B M pc (mx_l2i (pc + 1)) := by
  intro d k call hk hc ls st h r e
  unfold mx_l2i at e
  split at e
  · exact mx_G.step (hk _ _ _ _ _ e) (fun p e s m args below meth c R H locs cells slots Q la A hl K => lv_l2i A.1 A.2.1 hd rfl K)
  · cases e
theorem mx_s_i2b (hd : decode M.1 pc = .ok (.i2b, 1)) : mx_Sn B M pc (mx_i2b (pc + 1)) := by
  intro d k call hk hc ls st h r e
  unfold mx_i2b at e
  split at e
  · exact mx_G.step (hk _ _ _ _ _ e) (fun p e s m args below meth c R H locs cells slots Q la A hl K => lv_i2b A.1 A.2.1 hd rfl K)
  · rename_i t rest
    replace e := mx_bt e
    obtain ⟨hb, e⟩ := e
    obtain ⟨hb1, hb2⟩ := mx_an hb
    have hb3 := Nat.ble_eq.mp hb1
    have hb4 := mx_blt hb2
    have hv : mx_v B.2.1.1 (.float (mx_dv t 8)) = .int ((mx_fl B.2.1.1.2.2.2.2.2.2 t.toNat).toInt8.toInt32) := by
      show Value.int (mx_fl B.2.1.1.2.2.2.2.2.2 (mx_dv t 8).toNat) = _
      rw [mx_fl_8 (by omega) (by omega), mx_ap_13 hb3 hb4, ← mx_fl_split (by omega)]
    refine mx_G.step (hk _ _ _ _ _ e) (fun p e s m args below meth c R H locs cells slots Q la A hl K => lv_i2b A.1 A.2.1 hd rfl ?_)
    have K2 := K
    simp only [List.map_cons, hv] at K2
    exact K2
  · cases e
theorem mx_s_i2s (hd : decode M.1 pc = .ok (.i2s, 1)) : mx_Sn B M pc (mx_i2s (pc + 1)) := by
  intro d k call hk hc ls st h r e
  unfold mx_i2s at e
  split at e
  · exact mx_G.step (hk _ _ _ _ _ e) (fun p e s m args below meth c R H locs cells slots Q la A hl K => lv_i2s A.1 A.2.1 hd rfl K)
  · cases e
theorem mx_s_i2c (hd : decode M.1 pc = .ok (.i2c, 1)) : mx_Sn B M pc (mx_i2c (pc + 1)) := by
  intro d k call hk hc ls st h r e
  unfold mx_i2c at e
  split at e
  · exact mx_G.step (hk _ _ _ _ _ e) (fun p e s m args below meth c R H locs cells slots Q la A hl K => lv_i2c A.1 A.2.1 hd rfl K)
  · cases e
theorem mx_s_lcmp (hd : decode M.1 pc = .ok (.lcmp, 1)) : mx_Sn B M pc (mx_lcmp (pc + 1)) := by
  intro d k call hk hc ls st h r e
  unfold mx_lcmp at e
  split at e
  · exact mx_G.step (hk _ _ _ _ _ e) (fun p e s m args below meth c R H locs cells slots Q la A hl K => W.lcmp A.1 A.2.1 hd K)
  · cases e
theorem mx_s_idiv (hd : decode M.1 pc = .ok (.idiv, 1)) : mx_Sn B M pc (mx_idiv (pc + 1)) := by
  intro d k call hk hc ls st h r e
  unfold mx_idiv at e
  split at e
  · split at e
    · cases e
    · rename_i hne
      exact mx_G.step (hk _ _ _ _ _ e) (fun p e s m args below meth c R H locs cells slots Q la A hl K => lv_idiv A.1 A.2.1 hd hne K)
  · cases e
theorem mx_s_irem (hd : decode M.1 pc = .ok (.irem, 1)) : mx_Sn B M pc (mx_irem (pc + 1)) := by
  intro d k call hk hc ls st h r e
  unfold mx_irem at e
  split at e
  · split at e
    · cases e
    · rename_i hne
      exact mx_G.step (hk _ _ _ _ _ e) (fun p e s m args below meth c R H locs cells slots Q la A hl K => lv_irem A.1 A.2.1 hd hne K)
  · cases e
theorem mx_s_ldiv (hd : decode M.1 pc = .ok (.ldiv, 1)) : mx_Sn B M pc (mx_ldiv (pc + 1)) := by
  intro d k call hk hc ls st h r e
  unfold mx_ldiv at e
  split at e
  · split at e
    · cases e
    · rename_i hne
      exact mx_G.step (hk _ _ _ _ _ e) (fun p e s m args below meth c R H locs cells slots Q la A hl K => lv_ldiv A.1 A.2.1 hd hne K)
  · cases e
/-- numbers that aren't known -/
theorem mx_i32 {x : Int64} (h1 : -2147483648 ≤ x.toInt) (h2 : x.toInt ≤ 2147483647) : x.toInt32.toInt = x.toInt := by
  rw [Int64.toInt_toInt32]
  exact Int.bmod_eq_of_le (by omega) (by omega)
theorem mx_rng_ok {V : mx_Ev} {s : State} (hK : mx_KK V s) {v : Value} {iv : Int × Int} (h : mx_rng v = some iv) : ∃ x : Int32, mx_v V.1 v = .int x ∧ iv.1 ≤ x.toInt ∧ x.toInt ≤ iv.2 := by
  cases v <;> simp only [mx_rng] at h <;> try (cases h)
  · exact ⟨_, rfl, Int.le_refl _, Int.le_refl _⟩
  · split at h
    · rename_i t hc
      cases h
      have h2 := hK.2.2.2.1 _ hc.1
      refine ⟨(V.1.2.2.2.2.2.2 t.toNat).toInt32, (by show Value.int (mx_fl _ _) = _; rw [mx_fl_lo hc.2.2.2]), ?_, ?_⟩
      · rw [mx_i32 (by omega) (by omega)]; exact h2.1
      · rw [mx_i32 (by omega) (by omega)]; exact h2.2
    · cases h
theorem mx_rngL_ok {V : mx_Ev} {s : State} (hK : mx_KK V s) {v : Value} {iv : Int × Int} (h : mx_rngL v = some iv) : ∃ x : Int64, mx_v V.1 v = .long x ∧ iv.1 ≤ x.toInt ∧ x.toInt ≤ iv.2 := by
  cases v <;> simp only [mx_rngL] at h <;> try (cases h)
  · exact ⟨_, rfl, Int.le_refl _, Int.le_refl _⟩
  · split at h
    · rename_i t hc
      cases h
      have h2 := hK.2.2.2.1 _ hc
      exact ⟨_, rfl, h2.1, h2.2⟩
    · cases h
theorem mx_nlt_ok {p q : Option (Int × Int)} {t : Bool} (h : mx_nlt p q = some t) : ∃ a b : Int × Int, p = some a ∧ q = some b ∧ ∀ x y : Int, a.1 ≤ x → x ≤ a.2 → b.1 ≤ y → y ≤ b.2 → (t = true ↔ x < y) := by
  unfold mx_nlt at h
  split at h
  · rename_i a b
    refine ⟨a, b, rfl, rfl, ?_⟩
    split at h
    · cases h; intro x y h1 h2 h3 h4; exact ⟨fun _ => (by omega), fun _ => rfl⟩
    · split at h
      · cases h; intro x y h1 h2 h3 h4; exact ⟨fun z => (by cases z), fun z => (by omega)⟩
      · cases h
  · cases h
theorem mx_neq_ok {p q : Option (Int × Int)} {t : Bool} (h : mx_neq p q = some t) : ∃ a b : Int × Int, p = some a ∧ q = some b ∧ ∀ x y : Int, a.1 ≤ x → x ≤ a.2 → b.1 ≤ y → y ≤ b.2 → (t = true ↔ x = y) := by
  unfold mx_neq at h
  split at h
  · rename_i a b
    refine ⟨a, b, rfl, rfl, ?_⟩
    split at h
    · cases h; intro x y h1 h2 h3 h4; exact ⟨fun z => (by cases z), fun z => (by omega)⟩
    · split at h
      · cases h; intro x y h1 h2 h3 h4; exact ⟨fun _ => (by omega), fun _ => rfl⟩
      · cases h
  · cases h
theorem mx_nmap {p : Option Bool} {t : Bool} (h : p.map (fun c => !c) = some t) : p = some (!t) := by
  cases p with
  | none => cases h
  | some c => cases h; simp
theorem mx_n_lt_ok {p q : Option (Int × Int)} {t : Bool} (h : mx_n_lt p q = some t) : ∃ a b : Int × Int, p = some a ∧ q = some b ∧ ∀ x y : Int, a.1 ≤ x → x ≤ a.2 → b.1 ≤ y → y ≤ b.2 → (t = true ↔ x < y) := mx_nlt_ok h
theorem mx_n_ge_ok {p q : Option (Int × Int)} {t : Bool} (h : mx_n_ge p q = some t) : ∃ a b : Int × Int, p = some a ∧ q = some b ∧ ∀ x y : Int, a.1 ≤ x → x ≤ a.2 → b.1 ≤ y → y ≤ b.2 → (t = true ↔ y ≤ x) := by
  obtain ⟨a, b, h1, h2, h3⟩ := mx_nlt_ok (mx_nmap h)
  refine ⟨a, b, h1, h2, fun x y k1 k2 k3 k4 => ?_⟩
  have := h3 x y k1 k2 k3 k4
  cases t <;> simp at this ⊢ <;> omega
theorem mx_n_gt_ok {p q : Option (Int × Int)} {t : Bool} (h : mx_n_gt p q = some t) : ∃ a b : Int × Int, p = some a ∧ q = some b ∧ ∀ x y : Int, a.1 ≤ x → x ≤ a.2 → b.1 ≤ y → y ≤ b.2 → (t = true ↔ y < x) := by
  obtain ⟨b, a, h1, h2, h3⟩ := mx_nlt_ok h
  exact ⟨a, b, h2, h1, fun x y k1 k2 k3 k4 => h3 y x k3 k4 k1 k2⟩
theorem mx_n_le_ok {p q : Option (Int × Int)} {t : Bool} (h : mx_n_le p q = some t) : ∃ a b : Int × Int, p = some a ∧ q = some b ∧ ∀ x y : Int, a.1 ≤ x → x ≤ a.2 → b.1 ≤ y → y ≤ b.2 → (t = true ↔ x ≤ y) := by
  obtain ⟨b, a, h1, h2, h3⟩ := mx_nlt_ok (mx_nmap h)
  refine ⟨a, b, h2, h1, fun x y k1 k2 k3 k4 => ?_⟩
  have := h3 y x k3 k4 k1 k2
  cases t <;> simp at this ⊢ <;> omega
theorem mx_n_eq_ok {p q : Option (Int × Int)} {t : Bool} (h : mx_n_eq p q = some t) : ∃ a b : Int × Int, p = some a ∧ q = some b ∧ ∀ x y : Int, a.1 ≤ x → x ≤ a.2 → b.1 ≤ y → y ≤ b.2 → (t = true ↔ x = y) := mx_neq_ok h
theorem mx_n_ne_ok {p q : Option (Int × Int)} {t : Bool} (h : mx_n_ne p q = some t) : ∃ a b : Int × Int, p = some a ∧ q = some b ∧ ∀ x y : Int, a.1 ≤ x → x ≤ a.2 → b.1 ≤ y → y ≤ b.2 → (t = true ↔ ¬ x = y) := by
  obtain ⟨a, b, h1, h2, h3⟩ := mx_neq_ok (mx_nmap h)
  refine ⟨a, b, h1, h2, fun x y k1 k2 k3 k4 => ?_⟩
  have := h3 x y k1 k2 k3 k4
  cases t <;> simp at this ⊢ <;> omega
theorem mx_bra_some {k : mx_K} {tg nx : Nat} {ls : mx_L} {r : List Value} {h : mx_H} {o : Option Bool} {y : mx_R} (e : mx_bra k tg nx ls r h o = some y) : (o = some true ∧ k tg ls r h = some y) ∨ (o = some false ∧ k nx ls r h = some y) := by
  cases o with
  | none => cases e
  | some b => cases b
              · exact Or.inr ⟨rfl, e⟩
              · exact Or.inl ⟨rfl, e⟩
theorem mx_I32eq {x y : Int32} : x = y ↔ x.toInt = y.toInt := ⟨fun h => by rw [h], fun h => Int32.toInt_inj.mp h⟩
theorem mx_I64eq {x y : Int64} : x = y ↔ x.toInt = y.toInt := ⟨fun h => by rw [h], fun h => Int64.toInt_inj.mp h⟩
theorem mx_z_eq {x : Int32} : x = 0 ↔ x.toInt = 0 := by rw [mx_I32eq, Int32.toInt_zero]
theorem mx_z_ne {x : Int32} : ¬ x = 0 ↔ ¬ x.toInt = 0 := not_congr mx_z_eq
theorem mx_z_lt {x : Int32} : x < 0 ↔ x.toInt < 0 := by rw [Int32.lt_iff_toInt_lt, Int32.toInt_zero]
theorem mx_z_gt {x : Int32} : 0 < x ↔ 0 < x.toInt := by rw [Int32.lt_iff_toInt_lt, Int32.toInt_zero]
theorem mx_z_ge {x : Int32} : 0 ≤ x ↔ 0 ≤ x.toInt := by rw [Int32.le_iff_toInt_le, Int32.toInt_zero]
theorem mx_z_le {x : Int32} : x ≤ 0 ↔ x.toInt ≤ 0 := by rw [Int32.le_iff_toInt_le, Int32.toInt_zero]
theorem mx_lg_lt {x y : Int64} : lg_cmp x y < 0 ↔ x.toInt < y.toInt := by
  unfold lg_cmp
  by_cases h1 : y < x
  · rw [if_pos h1]; rw [Int64.lt_iff_toInt_lt] at h1; exact ⟨fun h => absurd h (by decide), fun h => by omega⟩
  · rw [if_neg h1]
    by_cases h2 : x = y
    · rw [if_pos h2]; rw [mx_I64eq] at h2; exact ⟨fun h => absurd h (by decide), fun h => by omega⟩
    · rw [if_neg h2]; rw [mx_I64eq] at h2; rw [Int64.lt_iff_toInt_lt] at h1; exact ⟨fun _ => by omega, fun _ => by decide⟩
theorem mx_lg_gt {x y : Int64} : 0 < lg_cmp x y ↔ y.toInt < x.toInt := by
  unfold lg_cmp
  by_cases h1 : y < x
  · rw [if_pos h1]; rw [Int64.lt_iff_toInt_lt] at h1; exact ⟨fun _ => by omega, fun _ => by decide⟩
  · rw [if_neg h1]
    by_cases h2 : x = y
    · rw [if_pos h2]; rw [mx_I64eq] at h2; exact ⟨fun h => absurd h (by decide), fun h => by omega⟩
    · rw [if_neg h2]; rw [mx_I64eq] at h2; rw [Int64.lt_iff_toInt_lt] at h1; exact ⟨fun h => absurd h (by decide), fun h => by omega⟩
theorem mx_lg_eq {x y : Int64} : lg_cmp x y = 0 ↔ x.toInt = y.toInt := by
  unfold lg_cmp
  by_cases h1 : y < x
  · rw [if_pos h1]; rw [Int64.lt_iff_toInt_lt] at h1; exact ⟨fun h => absurd h (by decide), fun h => by omega⟩
  · rw [if_neg h1]
    by_cases h2 : x = y
    · rw [if_pos h2]; rw [mx_I64eq] at h2; exact ⟨fun _ => (by omega), fun _ => rfl⟩
    · rw [if_neg h2]; rw [mx_I64eq] at h2; rw [Int64.lt_iff_toInt_lt] at h1; exact ⟨fun h => absurd h (by decide), fun h => by omega⟩
theorem mx_nltI {x : Int32} : 0 ≤ x ↔ ¬ x < 0 := by rw [Int32.le_iff_toInt_le, Int32.lt_iff_toInt_lt]; omega
theorem mx_nleI {x : Int32} : x ≤ 0 ↔ ¬ 0 < x := by rw [Int32.le_iff_toInt_le, Int32.lt_iff_toInt_lt]; omega
theorem mx_s_i2l (hd : decode M.1 pc = .ok (.i2l, 1)) : mx_Sn B M pc (mx_i2l (pc + 1)) := by
  intro d k call hk hc ls st h r e
  unfold mx_i2l at e
  split at e
  · exact mx_G.step (hk _ _ _ _ _ e) (fun p e s m args below meth c R H locs cells slots Q la A hl K => lv_i2l A.1 A.2.1 hd rfl K)
  · rename_i t rest
    split at e
    · rename_i iv hiv
      refine mx_G.step (hk _ _ _ _ _ e) (fun p e s m args below meth c R H locs cells slots Q la A hl K => lv_i2l A.1 A.2.1 hd ?_ K)
      obtain ⟨x, hx, -⟩ := mx_rng_ok A.2.2.2.2.2.2.2.2 hiv
      simp only [mx_rng] at hiv
      split at hiv
      · rename_i hcc
        have h2 := A.2.2.2.2.2.2.2.2.2.2.2.1 _ hcc.1
        have h3 : (UInt64.ofNat t.toNat).toNat = t.toNat := by
          have := t.toNat_lt; exact UInt64.toNat_ofNat_of_lt (by have h9 : UInt64.size = 18446744073709551616 := rfl; omega)
        rw [h3, mx_fl_lo hcc.2.2.2]
        apply mx_I64eq.mpr
        rw [Int32.toInt_toInt64, mx_i32 (by omega) (by omega)]
      · cases hiv
    · cases e
  · cases e
theorem mx_s_lsub (hd : decode M.1 pc = .ok (.lsub, 1)) : mx_Sn B M pc (mx_lsub (pc + 1)) := by
  intro d k call hk hc ls st h r e
  unfold mx_lsub at e
  split at e
  · exact mx_G.step (hk _ _ _ _ _ e) (fun p e s m args below meth c R H locs cells slots Q la A hl K => lv_lsub A.1 A.2.1 hd K)
  · split at e
    · rename_i hy
      subst hy
      refine mx_G.step (hk _ _ _ _ _ e) (fun p e s m args below meth c R H locs cells slots Q la A hl K => lv_lsub A.1 A.2.1 hd ?_)
      rw [Int64.sub_zero]
      exact K
    · cases e
  · cases e
theorem mx_s_lrem (hd : decode M.1 pc = .ok (.lrem, 1)) : mx_Sn B M pc (mx_lrem (pc + 1)) := by
  intro d k call hk hc ls st h r e
  unfold mx_lrem at e
  split at e
  · split at e
    · cases e
    · rename_i hne
      exact mx_G.step (hk _ _ _ _ _ e) (fun p e s m args below meth c R H locs cells slots Q la A hl K => lv_lrem A.1 A.2.1 hd hne K)
  · split at e
    · rename_i hy
      subst hy
      refine mx_G.step (hk _ _ _ _ _ e) (fun p e s m args below meth c R H locs cells slots Q la A hl K => lv_lrem A.1 A.2.1 hd (by decide) ?_)
      rw [Int64.div_one, Int64.mul_one, Int64.sub_self]
      exact K
    · cases e
  · cases e
theorem mx_s_if_eq {off : Int} {tg : Nat} (hd : decode M.1 pc = .ok (.ifCond .eq off, 3)) (ht : (pc : Int) + off = (tg : Int)) : mx_Sn B M pc (mx_if_eq tg (pc + 3)) := by
  intro d k call hk hc ls st h r e
  unfold mx_if_eq at e
  split at e
  · split at e
    · rename_i hP
      exact mx_G.step (hk _ _ _ _ _ e) (fun p e s m args below meth c R H locs cells slots Q la A hl K => lv_if_eq A.1 A.2.1 hd ht (fun _ => K) (fun z => absurd hP z))
    · rename_i hP
      exact mx_G.step (hk _ _ _ _ _ e) (fun p e s m args below meth c R H locs cells slots Q la A hl K => lv_if_eq A.1 A.2.1 hd ht (fun z => absurd z hP) (fun _ => K))
  · rename_i t rest
    have key : ∀ (b : Bool) (s : State), mx_KK B.2.1 s → mx_n_eq (mx_rng (.float t)) (some (0, 0)) = some b → ∃ x : Int32, mx_v B.2.1.1 (.float t) = .int x ∧ (b = true ↔ x = 0) := by
      intro b s hK hb
      obtain ⟨ia, ib, h1, h2, h3⟩ := mx_n_eq_ok hb
      obtain ⟨x, hx, h4, h5⟩ := mx_rng_ok hK h1
      cases h2
      exact ⟨x, hx, (h3 x.toInt 0 h4 h5 (Int.le_refl _) (Int.le_refl _)).trans mx_z_eq.symm⟩
    rcases mx_bra_some e with ⟨ho, e⟩ | ⟨ho, e⟩
    · refine mx_G.step (hk _ _ _ _ _ e) (fun p e s m args below meth c R H locs cells slots Q la A hl K => ?_)
      obtain ⟨x, hx, hp⟩ := key _ s A.2.2.2.2.2.2.2.2 ho
      show W _ _ _ _ _ _ _ _ _ _ _ _ _ _ _ (F0 m pc la (mx_v B.2.1.1 (.float t) :: rest.map (mx_v B.2.1.1)))
      rw [hx]
      exact lv_if_eq A.1 A.2.1 hd ht (fun _ => K) (fun z => absurd (hp.mp rfl) z)
    · refine mx_G.step (hk _ _ _ _ _ e) (fun p e s m args below meth c R H locs cells slots Q la A hl K => ?_)
      obtain ⟨x, hx, hp⟩ := key _ s A.2.2.2.2.2.2.2.2 ho
      show W _ _ _ _ _ _ _ _ _ _ _ _ _ _ _ (F0 m pc la (mx_v B.2.1.1 (.float t) :: rest.map (mx_v B.2.1.1)))
      rw [hx]
      exact lv_if_eq A.1 A.2.1 hd ht (fun z => absurd (hp.mpr z) (by decide)) (fun _ => K)
  · cases e
theorem mx_s_icmp_eq {off : Int} {tg : Nat} (hd : decode M.1 pc = .ok (.if_icmp .eq off, 3)) (ht : (pc : Int) + off = (tg : Int)) : mx_Sn B M pc (mx_icmp_eq tg (pc + 3)) := by
  intro d k call hk hc ls st h r e
  unfold mx_icmp_eq at e
  split at e
  · split at e
    · rename_i hP
      exact mx_G.step (hk _ _ _ _ _ e) (fun p e s m args below meth c R H locs cells slots Q la A hl K => lv_icmp_eq A.1 A.2.1 hd ht (fun _ => K) (fun z => absurd hP z))
    · rename_i hP
      exact mx_G.step (hk _ _ _ _ _ e) (fun p e s m args below meth c R H locs cells slots Q la A hl K => lv_icmp_eq A.1 A.2.1 hd ht (fun z => absurd z hP) (fun _ => K))
  · rename_i bb aa rest hno
    have key : ∀ (b : Bool) (s : State), mx_KK B.2.1 s → mx_n_eq (mx_rng aa) (mx_rng bb) = some b → ∃ x y : Int32, mx_v B.2.1.1 aa = .int x ∧ mx_v B.2.1.1 bb = .int y ∧ (b = true ↔ x = y) := by
      intro b s hK hb
      obtain ⟨ia, ib, h1, h2, h3⟩ := mx_n_eq_ok hb
      obtain ⟨x, hx, h4, h5⟩ := mx_rng_ok hK h1
      obtain ⟨y, hy, h6, h7⟩ := mx_rng_ok hK h2
      exact ⟨x, y, hx, hy, (h3 x.toInt y.toInt h4 h5 h6 h7).trans mx_I32eq.symm⟩
    rcases mx_bra_some e with ⟨ho, e⟩ | ⟨ho, e⟩
    · refine mx_G.step (hk _ _ _ _ _ e) (fun p e s m args below meth c R H locs cells slots Q la A hl K => ?_)
      obtain ⟨x, y, hx, hy, hp⟩ := key _ s A.2.2.2.2.2.2.2.2 ho
      show W _ _ _ _ _ _ _ _ _ _ _ _ _ _ _ (F0 m pc la (mx_v B.2.1.1 bb :: mx_v B.2.1.1 aa :: rest.map (mx_v B.2.1.1)))
      rw [hx, hy]
      exact lv_icmp_eq A.1 A.2.1 hd ht (fun _ => K) (fun z => absurd (hp.mp rfl) z)
    · refine mx_G.step (hk _ _ _ _ _ e) (fun p e s m args below meth c R H locs cells slots Q la A hl K => ?_)
      obtain ⟨x, y, hx, hy, hp⟩ := key _ s A.2.2.2.2.2.2.2.2 ho
      show W _ _ _ _ _ _ _ _ _ _ _ _ _ _ _ (F0 m pc la (mx_v B.2.1.1 bb :: mx_v B.2.1.1 aa :: rest.map (mx_v B.2.1.1)))
      rw [hx, hy]
      exact lv_icmp_eq A.1 A.2.1 hd ht (fun z => absurd (hp.mpr z) (by decide)) (fun _ => K)
  · cases e
theorem mx_s_lif_eq {off : Int} {tg nx : Nat} (hd1 : decode M.1 pc = .ok (.lcmp, 1)) (hd : decode M.1 (pc + 1) = .ok (.ifCond .eq off, 3)) (ht : ((pc + 1 : Nat) : Int) + off = (tg : Int)) (hn : pc + 1 + 3 = nx) : mx_Sn B M pc (mx_lif_eq tg nx) := by
  subst hn
  intro d k call hk hc ls st h r e
  unfold mx_lif_eq at e
  split at e
  · split at e
    · rename_i hP
      exact mx_G.step (hk _ _ _ _ _ e) (fun p e s m args below meth c R H locs cells slots Q la A hl K => W.lcmp A.1 A.2.1 hd1 (lv_if_eq A.1 A.2.1 hd ht (fun _ => K) (fun z => absurd hP z)))
    · rename_i hP
      exact mx_G.step (hk _ _ _ _ _ e) (fun p e s m args below meth c R H locs cells slots Q la A hl K => W.lcmp A.1 A.2.1 hd1 (lv_if_eq A.1 A.2.1 hd ht (fun z => absurd z hP) (fun _ => K)))
  · rename_i bb aa rest hno
    have key : ∀ (b : Bool) (s : State), mx_KK B.2.1 s → mx_n_eq (mx_rngL aa) (mx_rngL bb) = some b → ∃ x y : Int64, mx_v B.2.1.1 aa = .long x ∧ mx_v B.2.1.1 bb = .long y ∧ (b = true ↔ lg_cmp x y = 0) := by
      intro b s hK hb
      obtain ⟨ia, ib, h1, h2, h3⟩ := mx_n_eq_ok hb
      obtain ⟨x, hx, h4, h5⟩ := mx_rngL_ok hK h1
      obtain ⟨y, hy, h6, h7⟩ := mx_rngL_ok hK h2
      exact ⟨x, y, hx, hy, (h3 x.toInt y.toInt h4 h5 h6 h7).trans mx_lg_eq.symm⟩
    rcases mx_bra_some e with ⟨ho, e⟩ | ⟨ho, e⟩
    · refine mx_G.step (hk _ _ _ _ _ e) (fun p e s m args below meth c R H locs cells slots Q la A hl K => ?_)
      obtain ⟨x, y, hx, hy, hp⟩ := key _ s A.2.2.2.2.2.2.2.2 ho
      show W _ _ _ _ _ _ _ _ _ _ _ _ _ _ _ (F0 m pc la (mx_v B.2.1.1 bb :: mx_v B.2.1.1 aa :: rest.map (mx_v B.2.1.1)))
      rw [hx, hy]
      exact W.lcmp A.1 A.2.1 hd1 (lv_if_eq A.1 A.2.1 hd ht (fun _ => K) (fun z => absurd (hp.mp rfl) z))
    · refine mx_G.step (hk _ _ _ _ _ e) (fun p e s m args below meth c R H locs cells slots Q la A hl K => ?_)
      obtain ⟨x, y, hx, hy, hp⟩ := key _ s A.2.2.2.2.2.2.2.2 ho
      show W _ _ _ _ _ _ _ _ _ _ _ _ _ _ _ (F0 m pc la (mx_v B.2.1.1 bb :: mx_v B.2.1.1 aa :: rest.map (mx_v B.2.1.1)))
      rw [hx, hy]
      exact W.lcmp A.1 A.2.1 hd1 (lv_if_eq A.1 A.2.1 hd ht (fun z => absurd (hp.mpr z) (by decide)) (fun _ => K))
  · cases e
theorem mx_s_if_ne {off : Int} {tg : Nat} (hd : decode M.1 pc = .ok (.ifCond .ne off, 3)) (ht : (pc : Int) + off = (tg : Int)) : mx_Sn B M pc (mx_if_ne tg (pc + 3)) := by
  intro d k call hk hc ls st h r e
  unfold mx_if_ne at e
  split at e
  · split at e
    · rename_i hP
      exact mx_G.step (hk _ _ _ _ _ e) (fun p e s m args below meth c R H locs cells slots Q la A hl K => lv_if_ne A.1 A.2.1 hd ht (fun _ => K) (fun z => absurd z hP))
    · rename_i hP
      exact mx_G.step (hk _ _ _ _ _ e) (fun p e s m args below meth c R H locs cells slots Q la A hl K => lv_if_ne A.1 A.2.1 hd ht (fun z => absurd z hP) (fun _ => K))
  · rename_i t rest
    have key : ∀ (b : Bool) (s : State), mx_KK B.2.1 s → mx_n_ne (mx_rng (.float t)) (some (0, 0)) = some b → ∃ x : Int32, mx_v B.2.1.1 (.float t) = .int x ∧ (b = true ↔ ¬ x = 0) := by
      intro b s hK hb
      obtain ⟨ia, ib, h1, h2, h3⟩ := mx_n_ne_ok hb
      obtain ⟨x, hx, h4, h5⟩ := mx_rng_ok hK h1
      cases h2
      exact ⟨x, hx, (h3 x.toInt 0 h4 h5 (Int.le_refl _) (Int.le_refl _)).trans mx_z_ne.symm⟩
    rcases mx_bra_some e with ⟨ho, e⟩ | ⟨ho, e⟩
    · refine mx_G.step (hk _ _ _ _ _ e) (fun p e s m args below meth c R H locs cells slots Q la A hl K => ?_)
      obtain ⟨x, hx, hp⟩ := key _ s A.2.2.2.2.2.2.2.2 ho
      show W _ _ _ _ _ _ _ _ _ _ _ _ _ _ _ (F0 m pc la (mx_v B.2.1.1 (.float t) :: rest.map (mx_v B.2.1.1)))
      rw [hx]
      exact lv_if_ne A.1 A.2.1 hd ht (fun _ => K) (fun z => absurd z (hp.mp rfl))
    · refine mx_G.step (hk _ _ _ _ _ e) (fun p e s m args below meth c R H locs cells slots Q la A hl K => ?_)
      obtain ⟨x, hx, hp⟩ := key _ s A.2.2.2.2.2.2.2.2 ho
      show W _ _ _ _ _ _ _ _ _ _ _ _ _ _ _ (F0 m pc la (mx_v B.2.1.1 (.float t) :: rest.map (mx_v B.2.1.1)))
      rw [hx]
      exact lv_if_ne A.1 A.2.1 hd ht (fun z => absurd (hp.mpr z) (by decide)) (fun _ => K)
  · cases e
theorem mx_s_icmp_ne {off : Int} {tg : Nat} (hd : decode M.1 pc = .ok (.if_icmp .ne off, 3)) (ht : (pc : Int) + off = (tg : Int)) : mx_Sn B M pc (mx_icmp_ne tg (pc + 3)) := by
  intro d k call hk hc ls st h r e
  unfold mx_icmp_ne at e
  split at e
  · split at e
    · rename_i hP
      exact mx_G.step (hk _ _ _ _ _ e) (fun p e s m args below meth c R H locs cells slots Q la A hl K => lv_icmp_ne A.1 A.2.1 hd ht (fun _ => K) (fun z => absurd z hP))
    · rename_i hP
      exact mx_G.step (hk _ _ _ _ _ e) (fun p e s m args below meth c R H locs cells slots Q la A hl K => lv_icmp_ne A.1 A.2.1 hd ht (fun z => absurd z hP) (fun _ => K))
  · rename_i bb aa rest hno
    have key : ∀ (b : Bool) (s : State), mx_KK B.2.1 s → mx_n_ne (mx_rng aa) (mx_rng bb) = some b → ∃ x y : Int32, mx_v B.2.1.1 aa = .int x ∧ mx_v B.2.1.1 bb = .int y ∧ (b = true ↔ ¬ x = y) := by
      intro b s hK hb
      obtain ⟨ia, ib, h1, h2, h3⟩ := mx_n_ne_ok hb
      obtain ⟨x, hx, h4, h5⟩ := mx_rng_ok hK h1
      obtain ⟨y, hy, h6, h7⟩ := mx_rng_ok hK h2
      exact ⟨x, y, hx, hy, (h3 x.toInt y.toInt h4 h5 h6 h7).trans (not_congr mx_I32eq).symm⟩
    rcases mx_bra_some e with ⟨ho, e⟩ | ⟨ho, e⟩
    · refine mx_G.step (hk _ _ _ _ _ e) (fun p e s m args below meth c R H locs cells slots Q la A hl K => ?_)
      obtain ⟨x, y, hx, hy, hp⟩ := key _ s A.2.2.2.2.2.2.2.2 ho
      show W _ _ _ _ _ _ _ _ _ _ _ _ _ _ _ (F0 m pc la (mx_v B.2.1.1 bb :: mx_v B.2.1.1 aa :: rest.map (mx_v B.2.1.1)))
      rw [hx, hy]
      exact lv_icmp_ne A.1 A.2.1 hd ht (fun _ => K) (fun z => absurd z (hp.mp rfl))
    · refine mx_G.step (hk _ _ _ _ _ e) (fun p e s m args below meth c R H locs cells slots Q la A hl K => ?_)
      obtain ⟨x, y, hx, hy, hp⟩ := key _ s A.2.2.2.2.2.2.2.2 ho
      show W _ _ _ _ _ _ _ _ _ _ _ _ _ _ _ (F0 m pc la (mx_v B.2.1.1 bb :: mx_v B.2.1.1 aa :: rest.map (mx_v B.2.1.1)))
      rw [hx, hy]
      exact lv_icmp_ne A.1 A.2.1 hd ht (fun z => absurd (hp.mpr z) (by decide)) (fun _ => K)
  · cases e
theorem mx_s_lif_ne {off : Int} {tg nx : Nat} (hd1 : decode M.1 pc = .ok (.lcmp, 1)) (hd : decode M.1 (pc + 1) = .ok (.ifCond .ne off, 3)) (ht : ((pc + 1 : Nat) : Int) + off = (tg : Int)) (hn : pc + 1 + 3 = nx) : mx_Sn B M pc (mx_lif_ne tg nx) := by
  subst hn
  intro d k call hk hc ls st h r e
  unfold mx_lif_ne at e
  split at e
  · split at e
    · rename_i hP
      exact mx_G.step (hk _ _ _ _ _ e) (fun p e s m args below meth c R H locs cells slots Q la A hl K => W.lcmp A.1 A.2.1 hd1 (lv_if_ne A.1 A.2.1 hd ht (fun _ => K) (fun z => absurd z hP)))
    · rename_i hP
      exact mx_G.step (hk _ _ _ _ _ e) (fun p e s m args below meth c R H locs cells slots Q la A hl K => W.lcmp A.1 A.2.1 hd1 (lv_if_ne A.1 A.2.1 hd ht (fun z => absurd z hP) (fun _ => K)))
  · rename_i bb aa rest hno
    have key : ∀ (b : Bool) (s : State), mx_KK B.2.1 s → mx_n_ne (mx_rngL aa) (mx_rngL bb) = some b → ∃ x y : Int64, mx_v B.2.1.1 aa = .long x ∧ mx_v B.2.1.1 bb = .long y ∧ (b = true ↔ ¬ lg_cmp x y = 0) := by
      intro b s hK hb
      obtain ⟨ia, ib, h1, h2, h3⟩ := mx_n_ne_ok hb
      obtain ⟨x, hx, h4, h5⟩ := mx_rngL_ok hK h1
      obtain ⟨y, hy, h6, h7⟩ := mx_rngL_ok hK h2
      exact ⟨x, y, hx, hy, (h3 x.toInt y.toInt h4 h5 h6 h7).trans (not_congr mx_lg_eq).symm⟩
    rcases mx_bra_some e with ⟨ho, e⟩ | ⟨ho, e⟩
    · refine mx_G.step (hk _ _ _ _ _ e) (fun p e s m args below meth c R H locs cells slots Q la A hl K => ?_)
      obtain ⟨x, y, hx, hy, hp⟩ := key _ s A.2.2.2.2.2.2.2.2 ho
      show W _ _ _ _ _ _ _ _ _ _ _ _ _ _ _ (F0 m pc la (mx_v B.2.1.1 bb :: mx_v B.2.1.1 aa :: rest.map (mx_v B.2.1.1)))
      rw [hx, hy]
      exact W.lcmp A.1 A.2.1 hd1 (lv_if_ne A.1 A.2.1 hd ht (fun _ => K) (fun z => absurd z (hp.mp rfl)))
    · refine mx_G.step (hk _ _ _ _ _ e) (fun p e s m args below meth c R H locs cells slots Q la A hl K => ?_)
      obtain ⟨x, y, hx, hy, hp⟩ := key _ s A.2.2.2.2.2.2.2.2 ho
      show W _ _ _ _ _ _ _ _ _ _ _ _ _ _ _ (F0 m pc la (mx_v B.2.1.1 bb :: mx_v B.2.1.1 aa :: rest.map (mx_v B.2.1.1)))
      rw [hx, hy]
      exact W.lcmp A.1 A.2.1 hd1 (lv_if_ne A.1 A.2.1 hd ht (fun z => absurd (hp.mpr z) (by decide)) (fun _ => K))
  · cases e
theorem mx_s_if_lt {off : Int} {tg : Nat} (hd : decode M.1 pc = .ok (.ifCond .lt off, 3)) (ht : (pc : Int) + off = (tg : Int)) : mx_Sn B M pc (mx_if_lt tg (pc + 3)) := by
  intro d k call hk hc ls st h r e
  unfold mx_if_lt at e
  split at e
  · split at e
    · rename_i hP
      exact mx_G.step (hk _ _ _ _ _ e) (fun p e s m args below meth c R H locs cells slots Q la A hl K => lv_if_lt A.1 A.2.1 hd ht (fun _ => K) (fun z => absurd hP z))
    · rename_i hP
      exact mx_G.step (hk _ _ _ _ _ e) (fun p e s m args below meth c R H locs cells slots Q la A hl K => lv_if_lt A.1 A.2.1 hd ht (fun z => absurd z hP) (fun _ => K))
  · rename_i t rest
    have key : ∀ (b : Bool) (s : State), mx_KK B.2.1 s → mx_n_lt (mx_rng (.float t)) (some (0, 0)) = some b → ∃ x : Int32, mx_v B.2.1.1 (.float t) = .int x ∧ (b = true ↔ x < 0) := by
      intro b s hK hb
      obtain ⟨ia, ib, h1, h2, h3⟩ := mx_n_lt_ok hb
      obtain ⟨x, hx, h4, h5⟩ := mx_rng_ok hK h1
      cases h2
      exact ⟨x, hx, (h3 x.toInt 0 h4 h5 (Int.le_refl _) (Int.le_refl _)).trans mx_z_lt.symm⟩
    rcases mx_bra_some e with ⟨ho, e⟩ | ⟨ho, e⟩
    · refine mx_G.step (hk _ _ _ _ _ e) (fun p e s m args below meth c R H locs cells slots Q la A hl K => ?_)
      obtain ⟨x, hx, hp⟩ := key _ s A.2.2.2.2.2.2.2.2 ho
      show W _ _ _ _ _ _ _ _ _ _ _ _ _ _ _ (F0 m pc la (mx_v B.2.1.1 (.float t) :: rest.map (mx_v B.2.1.1)))
      rw [hx]
      exact lv_if_lt A.1 A.2.1 hd ht (fun _ => K) (fun z => absurd (hp.mp rfl) z)
    · refine mx_G.step (hk _ _ _ _ _ e) (fun p e s m args below meth c R H locs cells slots Q la A hl K => ?_)
      obtain ⟨x, hx, hp⟩ := key _ s A.2.2.2.2.2.2.2.2 ho
      show W _ _ _ _ _ _ _ _ _ _ _ _ _ _ _ (F0 m pc la (mx_v B.2.1.1 (.float t) :: rest.map (mx_v B.2.1.1)))
      rw [hx]
      exact lv_if_lt A.1 A.2.1 hd ht (fun z => absurd (hp.mpr z) (by decide)) (fun _ => K)
  · cases e
theorem mx_s_icmp_lt {off : Int} {tg : Nat} (hd : decode M.1 pc = .ok (.if_icmp .lt off, 3)) (ht : (pc : Int) + off = (tg : Int)) : mx_Sn B M pc (mx_icmp_lt tg (pc + 3)) := by
  intro d k call hk hc ls st h r e
  unfold mx_icmp_lt at e
  split at e
  · split at e
    · rename_i hP
      exact mx_G.step (hk _ _ _ _ _ e) (fun p e s m args below meth c R H locs cells slots Q la A hl K => lv_icmp_lt A.1 A.2.1 hd ht (fun _ => K) (fun z => absurd hP z))
    · rename_i hP
      exact mx_G.step (hk _ _ _ _ _ e) (fun p e s m args below meth c R H locs cells slots Q la A hl K => lv_icmp_lt A.1 A.2.1 hd ht (fun z => absurd z hP) (fun _ => K))
  · rename_i bb aa rest hno
    have key : ∀ (b : Bool) (s : State), mx_KK B.2.1 s → mx_n_lt (mx_rng aa) (mx_rng bb) = some b → ∃ x y : Int32, mx_v B.2.1.1 aa = .int x ∧ mx_v B.2.1.1 bb = .int y ∧ (b = true ↔ x < y) := by
      intro b s hK hb
      obtain ⟨ia, ib, h1, h2, h3⟩ := mx_n_lt_ok hb
      obtain ⟨x, hx, h4, h5⟩ := mx_rng_ok hK h1
      obtain ⟨y, hy, h6, h7⟩ := mx_rng_ok hK h2
      exact ⟨x, y, hx, hy, (h3 x.toInt y.toInt h4 h5 h6 h7).trans Int32.lt_iff_toInt_lt.symm⟩
    rcases mx_bra_some e with ⟨ho, e⟩ | ⟨ho, e⟩
    · refine mx_G.step (hk _ _ _ _ _ e) (fun p e s m args below meth c R H locs cells slots Q la A hl K => ?_)
      obtain ⟨x, y, hx, hy, hp⟩ := key _ s A.2.2.2.2.2.2.2.2 ho
      show W _ _ _ _ _ _ _ _ _ _ _ _ _ _ _ (F0 m pc la (mx_v B.2.1.1 bb :: mx_v B.2.1.1 aa :: rest.map (mx_v B.2.1.1)))
      rw [hx, hy]
      exact lv_icmp_lt A.1 A.2.1 hd ht (fun _ => K) (fun z => absurd (hp.mp rfl) z)
    · refine mx_G.step (hk _ _ _ _ _ e) (fun p e s m args below meth c R H locs cells slots Q la A hl K => ?_)
      obtain ⟨x, y, hx, hy, hp⟩ := key _ s A.2.2.2.2.2.2.2.2 ho
      show W _ _ _ _ _ _ _ _ _ _ _ _ _ _ _ (F0 m pc la (mx_v B.2.1.1 bb :: mx_v B.2.1.1 aa :: rest.map (mx_v B.2.1.1)))
      rw [hx, hy]
      exact lv_icmp_lt A.1 A.2.1 hd ht (fun z => absurd (hp.mpr z) (by decide)) (fun _ => K)
  · cases e
theorem mx_s_lif_lt {off : Int} {tg nx : Nat} (hd1 : decode M.1 pc = .ok (.lcmp, 1)) (hd : decode M.1 (pc + 1) = .ok (.ifCond .lt off, 3)) (ht : ((pc + 1 : Nat) : Int) + off = (tg : Int)) (hn : pc + 1 + 3 = nx) : mx_Sn B M pc (mx_lif_lt tg nx) := by
  subst hn
  intro d k call hk hc ls st h r e
  unfold mx_lif_lt at e
  split at e
  · split at e
    · rename_i hP
      exact mx_G.step (hk _ _ _ _ _ e) (fun p e s m args below meth c R H locs cells slots Q la A hl K => W.lcmp A.1 A.2.1 hd1 (lv_if_lt A.1 A.2.1 hd ht (fun _ => K) (fun z => absurd hP z)))
    · rename_i hP
      exact mx_G.step (hk _ _ _ _ _ e) (fun p e s m args below meth c R H locs cells slots Q la A hl K => W.lcmp A.1 A.2.1 hd1 (lv_if_lt A.1 A.2.1 hd ht (fun z => absurd z hP) (fun _ => K)))
  · rename_i bb aa rest hno
    have key : ∀ (b : Bool) (s : State), mx_KK B.2.1 s → mx_n_lt (mx_rngL aa) (mx_rngL bb) = some b → ∃ x y : Int64, mx_v B.2.1.1 aa = .long x ∧ mx_v B.2.1.1 bb = .long y ∧ (b = true ↔ lg_cmp x y < 0) := by
      intro b s hK hb
      obtain ⟨ia, ib, h1, h2, h3⟩ := mx_n_lt_ok hb
      obtain ⟨x, hx, h4, h5⟩ := mx_rngL_ok hK h1
      obtain ⟨y, hy, h6, h7⟩ := mx_rngL_ok hK h2
      exact ⟨x, y, hx, hy, (h3 x.toInt y.toInt h4 h5 h6 h7).trans mx_lg_lt.symm⟩
    rcases mx_bra_some e with ⟨ho, e⟩ | ⟨ho, e⟩
    · refine mx_G.step (hk _ _ _ _ _ e) (fun p e s m args below meth c R H locs cells slots Q la A hl K => ?_)
      obtain ⟨x, y, hx, hy, hp⟩ := key _ s A.2.2.2.2.2.2.2.2 ho
      show W _ _ _ _ _ _ _ _ _ _ _ _ _ _ _ (F0 m pc la (mx_v B.2.1.1 bb :: mx_v B.2.1.1 aa :: rest.map (mx_v B.2.1.1)))
      rw [hx, hy]
      exact W.lcmp A.1 A.2.1 hd1 (lv_if_lt A.1 A.2.1 hd ht (fun _ => K) (fun z => absurd (hp.mp rfl) z))
    · refine mx_G.step (hk _ _ _ _ _ e) (fun p e s m args below meth c R H locs cells slots Q la A hl K => ?_)
      obtain ⟨x, y, hx, hy, hp⟩ := key _ s A.2.2.2.2.2.2.2.2 ho
      show W _ _ _ _ _ _ _ _ _ _ _ _ _ _ _ (F0 m pc la (mx_v B.2.1.1 bb :: mx_v B.2.1.1 aa :: rest.map (mx_v B.2.1.1)))
      rw [hx, hy]
      exact W.lcmp A.1 A.2.1 hd1 (lv_if_lt A.1 A.2.1 hd ht (fun z => absurd (hp.mpr z) (by decide)) (fun _ => K))
  · cases e
theorem mx_s_if_ge {off : Int} {tg : Nat} (hd : decode M.1 pc = .ok (.ifCond .ge off, 3)) (ht : (pc : Int) + off = (tg : Int)) : mx_Sn B M pc (mx_if_ge tg (pc + 3)) := by
  intro d k call hk hc ls st h r e
  unfold mx_if_ge at e
  split at e
  · split at e
    · rename_i hP
      exact mx_G.step (hk _ _ _ _ _ e) (fun p e s m args below meth c R H locs cells slots Q la A hl K => lv_if_ge A.1 A.2.1 hd ht (fun _ => K) (fun z => absurd hP z))
    · rename_i hP
      exact mx_G.step (hk _ _ _ _ _ e) (fun p e s m args below meth c R H locs cells slots Q la A hl K => lv_if_ge A.1 A.2.1 hd ht (fun z => absurd z hP) (fun _ => K))
  · rename_i t rest
    have key : ∀ (b : Bool) (s : State), mx_KK B.2.1 s → mx_n_ge (mx_rng (.float t)) (some (0, 0)) = some b → ∃ x : Int32, mx_v B.2.1.1 (.float t) = .int x ∧ (b = true ↔ 0 ≤ x) := by
      intro b s hK hb
      obtain ⟨ia, ib, h1, h2, h3⟩ := mx_n_ge_ok hb
      obtain ⟨x, hx, h4, h5⟩ := mx_rng_ok hK h1
      cases h2
      exact ⟨x, hx, (h3 x.toInt 0 h4 h5 (Int.le_refl _) (Int.le_refl _)).trans mx_z_ge.symm⟩
    rcases mx_bra_some e with ⟨ho, e⟩ | ⟨ho, e⟩
    · refine mx_G.step (hk _ _ _ _ _ e) (fun p e s m args below meth c R H locs cells slots Q la A hl K => ?_)
      obtain ⟨x, hx, hp⟩ := key _ s A.2.2.2.2.2.2.2.2 ho
      show W _ _ _ _ _ _ _ _ _ _ _ _ _ _ _ (F0 m pc la (mx_v B.2.1.1 (.float t) :: rest.map (mx_v B.2.1.1)))
      rw [hx]
      exact lv_if_ge A.1 A.2.1 hd ht (fun _ => K) (fun z => absurd (hp.mp rfl) z)
    · refine mx_G.step (hk _ _ _ _ _ e) (fun p e s m args below meth c R H locs cells slots Q la A hl K => ?_)
      obtain ⟨x, hx, hp⟩ := key _ s A.2.2.2.2.2.2.2.2 ho
      show W _ _ _ _ _ _ _ _ _ _ _ _ _ _ _ (F0 m pc la (mx_v B.2.1.1 (.float t) :: rest.map (mx_v B.2.1.1)))
      rw [hx]
      exact lv_if_ge A.1 A.2.1 hd ht (fun z => absurd (hp.mpr z) (by decide)) (fun _ => K)
  · cases e
theorem mx_s_icmp_ge {off : Int} {tg : Nat} (hd : decode M.1 pc = .ok (.if_icmp .ge off, 3)) (ht : (pc : Int) + off = (tg : Int)) : mx_Sn B M pc (mx_icmp_ge tg (pc + 3)) := by
  intro d k call hk hc ls st h r e
  unfold mx_icmp_ge at e
  split at e
  · split at e
    · rename_i hP
      exact mx_G.step (hk _ _ _ _ _ e) (fun p e s m args below meth c R H locs cells slots Q la A hl K => lv_icmp_ge A.1 A.2.1 hd ht (fun _ => K) (fun z => absurd hP z))
    · rename_i hP
      exact mx_G.step (hk _ _ _ _ _ e) (fun p e s m args below meth c R H locs cells slots Q la A hl K => lv_icmp_ge A.1 A.2.1 hd ht (fun z => absurd z hP) (fun _ => K))
  · rename_i bb aa rest hno
    have key : ∀ (b : Bool) (s : State), mx_KK B.2.1 s → mx_n_ge (mx_rng aa) (mx_rng bb) = some b → ∃ x y : Int32, mx_v B.2.1.1 aa = .int x ∧ mx_v B.2.1.1 bb = .int y ∧ (b = true ↔ y ≤ x) := by
      intro b s hK hb
      obtain ⟨ia, ib, h1, h2, h3⟩ := mx_n_ge_ok hb
      obtain ⟨x, hx, h4, h5⟩ := mx_rng_ok hK h1
      obtain ⟨y, hy, h6, h7⟩ := mx_rng_ok hK h2
      exact ⟨x, y, hx, hy, (h3 x.toInt y.toInt h4 h5 h6 h7).trans Int32.le_iff_toInt_le.symm⟩
    rcases mx_bra_some e with ⟨ho, e⟩ | ⟨ho, e⟩
    · refine mx_G.step (hk _ _ _ _ _ e) (fun p e s m args below meth c R H locs cells slots Q la A hl K => ?_)
      obtain ⟨x, y, hx, hy, hp⟩ := key _ s A.2.2.2.2.2.2.2.2 ho
      show W _ _ _ _ _ _ _ _ _ _ _ _ _ _ _ (F0 m pc la (mx_v B.2.1.1 bb :: mx_v B.2.1.1 aa :: rest.map (mx_v B.2.1.1)))
      rw [hx, hy]
      exact lv_icmp_ge A.1 A.2.1 hd ht (fun _ => K) (fun z => absurd (hp.mp rfl) z)
    · refine mx_G.step (hk _ _ _ _ _ e) (fun p e s m args below meth c R H locs cells slots Q la A hl K => ?_)
      obtain ⟨x, y, hx, hy, hp⟩ := key _ s A.2.2.2.2.2.2.2.2 ho
      show W _ _ _ _ _ _ _ _ _ _ _ _ _ _ _ (F0 m pc la (mx_v B.2.1.1 bb :: mx_v B.2.1.1 aa :: rest.map (mx_v B.2.1.1)))
      rw [hx, hy]
      exact lv_icmp_ge A.1 A.2.1 hd ht (fun z => absurd (hp.mpr z) (by decide)) (fun _ => K)
  · cases e
theorem mx_s_lif_ge {off : Int} {tg nx : Nat} (hd1 : decode M.1 pc = .ok (.lcmp, 1)) (hd : decode M.1 (pc + 1) = .ok (.ifCond .ge off, 3)) (ht : ((pc + 1 : Nat) : Int) + off = (tg : Int)) (hn : pc + 1 + 3 = nx) : mx_Sn B M pc (mx_lif_ge tg nx) := by
  subst hn
  intro d k call hk hc ls st h r e
  unfold mx_lif_ge at e
  split at e
  · split at e
    · rename_i hP
      exact mx_G.step (hk _ _ _ _ _ e) (fun p e s m args below meth c R H locs cells slots Q la A hl K => W.lcmp A.1 A.2.1 hd1 (lv_if_ge A.1 A.2.1 hd ht (fun _ => K) (fun z => absurd hP z)))
    · rename_i hP
      exact mx_G.step (hk _ _ _ _ _ e) (fun p e s m args below meth c R H locs cells slots Q la A hl K => W.lcmp A.1 A.2.1 hd1 (lv_if_ge A.1 A.2.1 hd ht (fun z => absurd z hP) (fun _ => K)))
  · rename_i bb aa rest hno
    have key : ∀ (b : Bool) (s : State), mx_KK B.2.1 s → mx_n_ge (mx_rngL aa) (mx_rngL bb) = some b → ∃ x y : Int64, mx_v B.2.1.1 aa = .long x ∧ mx_v B.2.1.1 bb = .long y ∧ (b = true ↔ 0 ≤ lg_cmp x y) := by
      intro b s hK hb
      obtain ⟨ia, ib, h1, h2, h3⟩ := mx_n_ge_ok hb
      obtain ⟨x, hx, h4, h5⟩ := mx_rngL_ok hK h1
      obtain ⟨y, hy, h6, h7⟩ := mx_rngL_ok hK h2
      exact ⟨x, y, hx, hy, (h3 x.toInt y.toInt h4 h5 h6 h7).trans (mx_nltI.trans ((not_congr mx_lg_lt).trans Int.not_lt)).symm⟩
    rcases mx_bra_some e with ⟨ho, e⟩ | ⟨ho, e⟩
    · refine mx_G.step (hk _ _ _ _ _ e) (fun p e s m args below meth c R H locs cells slots Q la A hl K => ?_)
      obtain ⟨x, y, hx, hy, hp⟩ := key _ s A.2.2.2.2.2.2.2.2 ho
      show W _ _ _ _ _ _ _ _ _ _ _ _ _ _ _ (F0 m pc la (mx_v B.2.1.1 bb :: mx_v B.2.1.1 aa :: rest.map (mx_v B.2.1.1)))
      rw [hx, hy]
      exact W.lcmp A.1 A.2.1 hd1 (lv_if_ge A.1 A.2.1 hd ht (fun _ => K) (fun z => absurd (hp.mp rfl) z))
    · refine mx_G.step (hk _ _ _ _ _ e) (fun p e s m args below meth c R H locs cells slots Q la A hl K => ?_)
      obtain ⟨x, y, hx, hy, hp⟩ := key _ s A.2.2.2.2.2.2.2.2 ho
      show W _ _ _ _ _ _ _ _ _ _ _ _ _ _ _ (F0 m pc la (mx_v B.2.1.1 bb :: mx_v B.2.1.1 aa :: rest.map (mx_v B.2.1.1)))
      rw [hx, hy]
      exact W.lcmp A.1 A.2.1 hd1 (lv_if_ge A.1 A.2.1 hd ht (fun z => absurd (hp.mpr z) (by decide)) (fun _ => K))
  · cases e
theorem mx_s_if_gt {off : Int} {tg : Nat} (hd : decode M.1 pc = .ok (.ifCond .gt off, 3)) (ht : (pc : Int) + off = (tg : Int)) : mx_Sn B M pc (mx_if_gt tg (pc + 3)) := by
  intro d k call hk hc ls st h r e
  unfold mx_if_gt at e
  split at e
  · split at e
    · rename_i hP
      exact mx_G.step (hk _ _ _ _ _ e) (fun p e s m args below meth c R H locs cells slots Q la A hl K => lv_if_gt A.1 A.2.1 hd ht (fun _ => K) (fun z => absurd hP z))
    · rename_i hP
      exact mx_G.step (hk _ _ _ _ _ e) (fun p e s m args below meth c R H locs cells slots Q la A hl K => lv_if_gt A.1 A.2.1 hd ht (fun z => absurd z hP) (fun _ => K))
  · rename_i t rest
    have key : ∀ (b : Bool) (s : State), mx_KK B.2.1 s → mx_n_gt (mx_rng (.float t)) (some (0, 0)) = some b → ∃ x : Int32, mx_v B.2.1.1 (.float t) = .int x ∧ (b = true ↔ 0 < x) := by
      intro b s hK hb
      obtain ⟨ia, ib, h1, h2, h3⟩ := mx_n_gt_ok hb
      obtain ⟨x, hx, h4, h5⟩ := mx_rng_ok hK h1
      cases h2
      exact ⟨x, hx, (h3 x.toInt 0 h4 h5 (Int.le_refl _) (Int.le_refl _)).trans mx_z_gt.symm⟩
    rcases mx_bra_some e with ⟨ho, e⟩ | ⟨ho, e⟩
    · refine mx_G.step (hk _ _ _ _ _ e) (fun p e s m args below meth c R H locs cells slots Q la A hl K => ?_)
      obtain ⟨x, hx, hp⟩ := key _ s A.2.2.2.2.2.2.2.2 ho
      show W _ _ _ _ _ _ _ _ _ _ _ _ _ _ _ (F0 m pc la (mx_v B.2.1.1 (.float t) :: rest.map (mx_v B.2.1.1)))
      rw [hx]
      exact lv_if_gt A.1 A.2.1 hd ht (fun _ => K) (fun z => absurd (hp.mp rfl) z)
    · refine mx_G.step (hk _ _ _ _ _ e) (fun p e s m args below meth c R H locs cells slots Q la A hl K => ?_)
      obtain ⟨x, hx, hp⟩ := key _ s A.2.2.2.2.2.2.2.2 ho
      show W _ _ _ _ _ _ _ _ _ _ _ _ _ _ _ (F0 m pc la (mx_v B.2.1.1 (.float t) :: rest.map (mx_v B.2.1.1)))
      rw [hx]
      exact lv_if_gt A.1 A.2.1 hd ht (fun z => absurd (hp.mpr z) (by decide)) (fun _ => K)
  · cases e
theorem mx_s_icmp_gt {off : Int} {tg : Nat} (hd : decode M.1 pc = .ok (.if_icmp .gt off, 3)) (ht : (pc : Int) + off = (tg : Int)) : mx_Sn B M pc (mx_icmp_gt tg (pc + 3)) := by
  intro d k call hk hc ls st h r e
  unfold mx_icmp_gt at e
  split at e
  · split at e
    · rename_i hP
      exact mx_G.step (hk _ _ _ _ _ e) (fun p e s m args below meth c R H locs cells slots Q la A hl K => lv_icmp_gt A.1 A.2.1 hd ht (fun _ => K) (fun z => absurd hP z))
    · rename_i hP
      exact mx_G.step (hk _ _ _ _ _ e) (fun p e s m args below meth c R H locs cells slots Q la A hl K => lv_icmp_gt A.1 A.2.1 hd ht (fun z => absurd z hP) (fun _ => K))
  · rename_i bb aa rest hno
    have key : ∀ (b : Bool) (s : State), mx_KK B.2.1 s → mx_n_gt (mx_rng aa) (mx_rng bb) = some b → ∃ x y : Int32, mx_v B.2.1.1 aa = .int x ∧ mx_v B.2.1.1 bb = .int y ∧ (b = true ↔ y < x) := by
      intro b s hK hb
      obtain ⟨ia, ib, h1, h2, h3⟩ := mx_n_gt_ok hb
      obtain ⟨x, hx, h4, h5⟩ := mx_rng_ok hK h1
      obtain ⟨y, hy, h6, h7⟩ := mx_rng_ok hK h2
      exact ⟨x, y, hx, hy, (h3 x.toInt y.toInt h4 h5 h6 h7).trans Int32.lt_iff_toInt_lt.symm⟩
    rcases mx_bra_some e with ⟨ho, e⟩ | ⟨ho, e⟩
    · refine mx_G.step (hk _ _ _ _ _ e) (fun p e s m args below meth c R H locs cells slots Q la A hl K => ?_)
      obtain ⟨x, y, hx, hy, hp⟩ := key _ s A.2.2.2.2.2.2.2.2 ho
      show W _ _ _ _ _ _ _ _ _ _ _ _ _ _ _ (F0 m pc la (mx_v B.2.1.1 bb :: mx_v B.2.1.1 aa :: rest.map (mx_v B.2.1.1)))
      rw [hx, hy]
      exact lv_icmp_gt A.1 A.2.1 hd ht (fun _ => K) (fun z => absurd (hp.mp rfl) z)
    · refine mx_G.step (hk _ _ _ _ _ e) (fun p e s m args below meth c R H locs cells slots Q la A hl K => ?_)
      obtain ⟨x, y, hx, hy, hp⟩ := key _ s A.2.2.2.2.2.2.2.2 ho
      show W _ _ _ _ _ _ _ _ _ _ _ _ _ _ _ (F0 m pc la (mx_v B.2.1.1 bb :: mx_v B.2.1.1 aa :: rest.map (mx_v B.2.1.1)))
      rw [hx, hy]
      exact lv_icmp_gt A.1 A.2.1 hd ht (fun z => absurd (hp.mpr z) (by decide)) (fun _ => K)
  · cases e
theorem mx_s_lif_gt {off : Int} {tg nx : Nat} (hd1 : decode M.1 pc = .ok (.lcmp, 1)) (hd : decode M.1 (pc + 1) = .ok (.ifCond .gt off, 3)) (ht : ((pc + 1 : Nat) : Int) + off = (tg : Int)) (hn : pc + 1 + 3 = nx) : mx_Sn B M pc (mx_lif_gt tg nx) := by
  subst hn
  intro d k call hk hc ls st h r e
  unfold mx_lif_gt at e
  split at e
  · split at e
    · rename_i hP
      exact mx_G.step (hk _ _ _ _ _ e) (fun p e s m args below meth c R H locs cells slots Q la A hl K => W.lcmp A.1 A.2.1 hd1 (lv_if_gt A.1 A.2.1 hd ht (fun _ => K) (fun z => absurd hP z)))
    · rename_i hP
      exact mx_G.step (hk _ _ _ _ _ e) (fun p e s m args below meth c R H locs cells slots Q la A hl K => W.lcmp A.1 A.2.1 hd1 (lv_if_gt A.1 A.2.1 hd ht (fun z => absurd z hP) (fun _ => K)))
  · rename_i bb aa rest hno
    have key : ∀ (b : Bool) (s : State), mx_KK B.2.1 s → mx_n_gt (mx_rngL aa) (mx_rngL bb) = some b → ∃ x y : Int64, mx_v B.2.1.1 aa = .long x ∧ mx_v B.2.1.1 bb = .long y ∧ (b = true ↔ 0 < lg_cmp x y) := by
      intro b s hK hb
      obtain ⟨ia, ib, h1, h2, h3⟩ := mx_n_gt_ok hb
      obtain ⟨x, hx, h4, h5⟩ := mx_rngL_ok hK h1
      obtain ⟨y, hy, h6, h7⟩ := mx_rngL_ok hK h2
      exact ⟨x, y, hx, hy, (h3 x.toInt y.toInt h4 h5 h6 h7).trans mx_lg_gt.symm⟩
    rcases mx_bra_some e with ⟨ho, e⟩ | ⟨ho, e⟩
    · refine mx_G.step (hk _ _ _ _ _ e) (fun p e s m args below meth c R H locs cells slots Q la A hl K => ?_)
      obtain ⟨x, y, hx, hy, hp⟩ := key _ s A.2.2.2.2.2.2.2.2 ho
      show W _ _ _ _ _ _ _ _ _ _ _ _ _ _ _ (F0 m pc la (mx_v B.2.1.1 bb :: mx_v B.2.1.1 aa :: rest.map (mx_v B.2.1.1)))
      rw [hx, hy]
      exact W.lcmp A.1 A.2.1 hd1 (lv_if_gt A.1 A.2.1 hd ht (fun _ => K) (fun z => absurd (hp.mp rfl) z))
    · refine mx_G.step (hk _ _ _ _ _ e) (fun p e s m args below meth c R H locs cells slots Q la A hl K => ?_)
      obtain ⟨x, y, hx, hy, hp⟩ := key _ s A.2.2.2.2.2.2.2.2 ho
      show W _ _ _ _ _ _ _ _ _ _ _ _ _ _ _ (F0 m pc la (mx_v B.2.1.1 bb :: mx_v B.2.1.1 aa :: rest.map (mx_v B.2.1.1)))
      rw [hx, hy]
      exact W.lcmp A.1 A.2.1 hd1 (lv_if_gt A.1 A.2.1 hd ht (fun z => absurd (hp.mpr z) (by decide)) (fun _ => K))
  · cases e
theorem mx_s_if_le {off : Int} {tg : Nat} (hd : decode M.1 pc = .ok (.ifCond .le off, 3)) (ht : (pc : Int) + off = (tg : Int)) : mx_Sn B M pc (mx_if_le tg (pc + 3)) := by
  intro d k call hk hc ls st h r e
  unfold mx_if_le at e
  split at e
  · split at e
    · rename_i hP
      exact mx_G.step (hk _ _ _ _ _ e) (fun p e s m args below meth c R H locs cells slots Q la A hl K => lv_if_le A.1 A.2.1 hd ht (fun _ => K) (fun z => absurd hP z))
    · rename_i hP
      exact mx_G.step (hk _ _ _ _ _ e) (fun p e s m args below meth c R H locs cells slots Q la A hl K => lv_if_le A.1 A.2.1 hd ht (fun z => absurd z hP) (fun _ => K))
  · rename_i t rest
    have key : ∀ (b : Bool) (s : State), mx_KK B.2.1 s → mx_n_le (mx_rng (.float t)) (some (0, 0)) = some b → ∃ x : Int32, mx_v B.2.1.1 (.float t) = .int x ∧ (b = true ↔ x ≤ 0) := by
      intro b s hK hb
      obtain ⟨ia, ib, h1, h2, h3⟩ := mx_n_le_ok hb
      obtain ⟨x, hx, h4, h5⟩ := mx_rng_ok hK h1
      cases h2
      exact ⟨x, hx, (h3 x.toInt 0 h4 h5 (Int.le_refl _) (Int.le_refl _)).trans mx_z_le.symm⟩
    rcases mx_bra_some e with ⟨ho, e⟩ | ⟨ho, e⟩
    · refine mx_G.step (hk _ _ _ _ _ e) (fun p e s m args below meth c R H locs cells slots Q la A hl K => ?_)
      obtain ⟨x, hx, hp⟩ := key _ s A.2.2.2.2.2.2.2.2 ho
      show W _ _ _ _ _ _ _ _ _ _ _ _ _ _ _ (F0 m pc la (mx_v B.2.1.1 (.float t) :: rest.map (mx_v B.2.1.1)))
      rw [hx]
      exact lv_if_le A.1 A.2.1 hd ht (fun _ => K) (fun z => absurd (hp.mp rfl) z)
    · refine mx_G.step (hk _ _ _ _ _ e) (fun p e s m args below meth c R H locs cells slots Q la A hl K => ?_)
      obtain ⟨x, hx, hp⟩ := key _ s A.2.2.2.2.2.2.2.2 ho
      show W _ _ _ _ _ _ _ _ _ _ _ _ _ _ _ (F0 m pc la (mx_v B.2.1.1 (.float t) :: rest.map (mx_v B.2.1.1)))
      rw [hx]
      exact lv_if_le A.1 A.2.1 hd ht (fun z => absurd (hp.mpr z) (by decide)) (fun _ => K)
  · cases e
theorem mx_s_icmp_le {off : Int} {tg : Nat} (hd : decode M.1 pc = .ok (.if_icmp .le off, 3)) (ht : (pc : Int) + off = (tg : Int)) : mx_Sn B M pc (mx_icmp_le tg (pc + 3)) := by
  intro d k call hk hc ls st h r e
  unfold mx_icmp_le at e
  split at e
  · split at e
    · rename_i hP
      exact mx_G.step (hk _ _ _ _ _ e) (fun p e s m args below meth c R H locs cells slots Q la A hl K => lv_icmp_le A.1 A.2.1 hd ht (fun _ => K) (fun z => absurd hP z))
    · rename_i hP
      exact mx_G.step (hk _ _ _ _ _ e) (fun p e s m args below meth c R H locs cells slots Q la A hl K => lv_icmp_le A.1 A.2.1 hd ht (fun z => absurd z hP) (fun _ => K))
  · rename_i bb aa rest hno
    have key : ∀ (b : Bool) (s : State), mx_KK B.2.1 s → mx_n_le (mx_rng aa) (mx_rng bb) = some b → ∃ x y : Int32, mx_v B.2.1.1 aa = .int x ∧ mx_v B.2.1.1 bb = .int y ∧ (b = true ↔ x ≤ y) := by
      intro b s hK hb
      obtain ⟨ia, ib, h1, h2, h3⟩ := mx_n_le_ok hb
      obtain ⟨x, hx, h4, h5⟩ := mx_rng_ok hK h1
      obtain ⟨y, hy, h6, h7⟩ := mx_rng_ok hK h2
      exact ⟨x, y, hx, hy, (h3 x.toInt y.toInt h4 h5 h6 h7).trans Int32.le_iff_toInt_le.symm⟩
    rcases mx_bra_some e with ⟨ho, e⟩ | ⟨ho, e⟩
    · refine mx_G.step (hk _ _ _ _ _ e) (fun p e s m args below meth c R H locs cells slots Q la A hl K => ?_)
      obtain ⟨x, y, hx, hy, hp⟩ := key _ s A.2.2.2.2.2.2.2.2 ho
      show W _ _ _ _ _ _ _ _ _ _ _ _ _ _ _ (F0 m pc la (mx_v B.2.1.1 bb :: mx_v B.2.1.1 aa :: rest.map (mx_v B.2.1.1)))
      rw [hx, hy]
      exact lv_icmp_le A.1 A.2.1 hd ht (fun _ => K) (fun z => absurd (hp.mp rfl) z)
    · refine mx_G.step (hk _ _ _ _ _ e) (fun p e s m args below meth c R H locs cells slots Q la A hl K => ?_)
      obtain ⟨x, y, hx, hy, hp⟩ := key _ s A.2.2.2.2.2.2.2.2 ho
      show W _ _ _ _ _ _ _ _ _ _ _ _ _ _ _ (F0 m pc la (mx_v B.2.1.1 bb :: mx_v B.2.1.1 aa :: rest.map (mx_v B.2.1.1)))
      rw [hx, hy]
      exact lv_icmp_le A.1 A.2.1 hd ht (fun z => absurd (hp.mpr z) (by decide)) (fun _ => K)
  · cases e
theorem mx_s_lif_le {off : Int} {tg nx : Nat} (hd1 : decode M.1 pc = .ok (.lcmp, 1)) (hd : decode M.1 (pc + 1) = .ok (.ifCond .le off, 3)) (ht : ((pc + 1 : Nat) : Int) + off = (tg : Int)) (hn : pc + 1 + 3 = nx) : mx_Sn B M pc (mx_lif_le tg nx) := by
  subst hn
  intro d k call hk hc ls st h r e
  unfold mx_lif_le at e
  split at e
  · split at e
    · rename_i hP
      exact mx_G.step (hk _ _ _ _ _ e) (fun p e s m args below meth c R H locs cells slots Q la A hl K => W.lcmp A.1 A.2.1 hd1 (lv_if_le A.1 A.2.1 hd ht (fun _ => K) (fun z => absurd hP z)))
    · rename_i hP
      exact mx_G.step (hk _ _ _ _ _ e) (fun p e s m args below meth c R H locs cells slots Q la A hl K => W.lcmp A.1 A.2.1 hd1 (lv_if_le A.1 A.2.1 hd ht (fun z => absurd z hP) (fun _ => K)))
  · rename_i bb aa rest hno
    have key : ∀ (b : Bool) (s : State), mx_KK B.2.1 s → mx_n_le (mx_rngL aa) (mx_rngL bb) = some b → ∃ x y : Int64, mx_v B.2.1.1 aa = .long x ∧ mx_v B.2.1.1 bb = .long y ∧ (b = true ↔ lg_cmp x y ≤ 0) := by
      intro b s hK hb
      obtain ⟨ia, ib, h1, h2, h3⟩ := mx_n_le_ok hb
      obtain ⟨x, hx, h4, h5⟩ := mx_rngL_ok hK h1
      obtain ⟨y, hy, h6, h7⟩ := mx_rngL_ok hK h2
      exact ⟨x, y, hx, hy, (h3 x.toInt y.toInt h4 h5 h6 h7).trans (mx_nleI.trans ((not_congr mx_lg_gt).trans Int.not_lt)).symm⟩
    rcases mx_bra_some e with ⟨ho, e⟩ | ⟨ho, e⟩
    · refine mx_G.step (hk _ _ _ _ _ e) (fun p e s m args below meth c R H locs cells slots Q la A hl K => ?_)
      obtain ⟨x, y, hx, hy, hp⟩ := key _ s A.2.2.2.2.2.2.2.2 ho
      show W _ _ _ _ _ _ _ _ _ _ _ _ _ _ _ (F0 m pc la (mx_v B.2.1.1 bb :: mx_v B.2.1.1 aa :: rest.map (mx_v B.2.1.1)))
      rw [hx, hy]
      exact W.lcmp A.1 A.2.1 hd1 (lv_if_le A.1 A.2.1 hd ht (fun _ => K) (fun z => absurd (hp.mp rfl) z))
    · refine mx_G.step (hk _ _ _ _ _ e) (fun p e s m args below meth c R H locs cells slots Q la A hl K => ?_)
      obtain ⟨x, y, hx, hy, hp⟩ := key _ s A.2.2.2.2.2.2.2.2 ho
      show W _ _ _ _ _ _ _ _ _ _ _ _ _ _ _ (F0 m pc la (mx_v B.2.1.1 bb :: mx_v B.2.1.1 aa :: rest.map (mx_v B.2.1.1)))
      rw [hx, hy]
      exact W.lcmp A.1 A.2.1 hd1 (lv_if_le A.1 A.2.1 hd ht (fun z => absurd (hp.mpr z) (by decide)) (fun _ => K))
  · cases e
theorem mx_s_goto {off : Int} {tg : Nat} (hd : decode M.1 pc = .ok (.goto off, 3)) (ht : (pc : Int) + off = (tg : Int)) : mx_Sn B M pc (mx_goto tg) := by
  intro d k call hk hc ls st h r e
  exact mx_G.step (hk _ _ _ _ _ e) (fun p e s m args below meth c R H locs cells slots Q la A hl K => lv_goto A.1 A.2.1 hd ht K)
theorem mx_s_ifnull {off : Int} {tg : Nat} (hd : decode M.1 pc = .ok (.ifnull off, 3)) (ht : (pc : Int) + off = (tg : Int)) : mx_Sn B M pc (mx_ifnull tg (pc + 3)) := by
  intro d k call hk hc ls st h r e
  unfold mx_ifnull at e
  split at e
  · exact mx_G.step (hk _ _ _ _ _ e) (fun p e s m args below meth c R H locs cells slots Q la A hl K => lv_ifnullN A.1 A.2.1 hd ht K)
  · exact mx_G.step (hk _ _ _ _ _ e) (fun p e s m args below meth c R H locs cells slots Q la A hl K => lv_ifnull A.1 A.2.1 hd K)
  · cases e
theorem mx_s_ifnonnull {off : Int} {tg : Nat} (hd : decode M.1 pc = .ok (.ifnonnull off, 3)) (ht : (pc : Int) + off = (tg : Int)) : mx_Sn B M pc (mx_ifnonnull tg (pc + 3)) := by
  intro d k call hk hc ls st h r e
  unfold mx_ifnonnull at e
  split at e
  · exact mx_G.step (hk _ _ _ _ _ e) (fun p e s m args below meth c R H locs cells slots Q la A hl K => lv_ifnonnullN A.1 A.2.1 hd K)
  · exact mx_G.step (hk _ _ _ _ _ e) (fun p e s m args below meth c R H locs cells slots Q la A hl K => lv_ifnonnull A.1 A.2.1 hd ht K)
  · cases e
theorem mx_c1_v {E : mx_E} {v : Value} (h : mx_c1 v = true) : (mx_v E v).category = 1 := by
  cases v <;> first | rfl | (simp [mx_c1] at h)
theorem mx_c2_v {E : mx_E} {v : Value} (h : mx_c1 v = false) : (mx_v E v).category = 2 := by
  cases v <;> first | rfl | (simp [mx_c1] at h)
theorem mx_and {a b : Bool} (h : (a && b) = true) : a = true ∧ b = true := by
  cases a <;> cases b <;> simp at h ⊢
theorem mx_s_dup (hd : decode M.1 pc = .ok (.dup, 1)) : mx_Sn B M pc (mx_dup (pc + 1)) := by
  intro d k call hk hc ls st h r e
  unfold mx_dup at e
  split at e
  · obtain ⟨b1, e⟩ := mx_bt e
    exact mx_G.step (hk _ _ _ _ _ e) (fun p e s m args below meth c R H locs cells slots Q la A hl K => lv_dup A.1 A.2.1 hd (mx_c1_v b1) K)
  · cases e
theorem mx_s_pop (hd : decode M.1 pc = .ok (.pop, 1)) : mx_Sn B M pc (mx_pop (pc + 1)) := by
  intro d k call hk hc ls st h r e
  unfold mx_pop at e
  split at e
  · obtain ⟨b1, e⟩ := mx_bt e
    exact mx_G.step (hk _ _ _ _ _ e) (fun p e s m args below meth c R H locs cells slots Q la A hl K => lv_pop A.1 A.2.1 hd (mx_c1_v b1) K)
  · cases e
theorem mx_s_dup_x1 (hd : decode M.1 pc = .ok (.dup_x1, 1)) : mx_Sn B M pc (mx_dup_x1 (pc + 1)) := by
  intro d k call hk hc ls st h r e
  unfold mx_dup_x1 at e
  split at e
  · obtain ⟨b1, e⟩ := mx_bt e
    obtain ⟨b1, b2⟩ := mx_and b1
    exact mx_G.step (hk _ _ _ _ _ e) (fun p e s m args below meth c R H locs cells slots Q la A hl K => lv_dup_x1 A.1 A.2.1 hd (mx_c1_v b1) (mx_c1_v b2) K)
  · cases e
theorem mx_s_dup_x2 (hd : decode M.1 pc = .ok (.dup_x2, 1)) : mx_Sn B M pc (mx_dup_x2 (pc + 1)) := by
  intro d k call hk hc ls st h r e
  unfold mx_dup_x2 at e
  split at e
  · obtain ⟨b1, e⟩ := mx_bt e
    obtain ⟨b1, b2⟩ := mx_and b1
    obtain ⟨b2, b3⟩ := mx_and b2
    exact mx_G.step (hk _ _ _ _ _ e) (fun p e s m args below meth c R H locs cells slots Q la A hl K => lv_dup_x2 A.1 A.2.1 hd (mx_c1_v b1) (mx_c1_v b2) (mx_c1_v b3) K)
  · cases e
theorem mx_s_dup2a (hd : decode M.1 pc = .ok (.dup2, 1)) : mx_Sn B M pc (mx_dup2a (pc + 1)) := by
  intro d k call hk hc ls st h r e
  unfold mx_dup2a at e
  split at e
  · obtain ⟨b1, e⟩ := mx_bt e
    obtain ⟨b1, b2⟩ := mx_and b1
    exact mx_G.step (hk _ _ _ _ _ e) (fun p e s m args below meth c R H locs cells slots Q la A hl K => lv_dup2_11 A.1 A.2.1 hd (mx_c1_v b1) (mx_c1_v b2) K)
  · cases e
theorem mx_s_dup2b (hd : decode M.1 pc = .ok (.dup2, 1)) : mx_Sn B M pc (mx_dup2b (pc + 1)) := by
  intro d k call hk hc ls st h r e
  unfold mx_dup2b at e
  split at e
  · obtain ⟨b1, e⟩ := mx_bf e
    exact mx_G.step (hk _ _ _ _ _ e) (fun p e s m args below meth c R H locs cells slots Q la A hl K => lv_dup2_2 A.1 A.2.1 hd (mx_c2_v b1) K)
  · cases e
theorem mx_s_pop2a (hd : decode M.1 pc = .ok (.pop2, 1)) : mx_Sn B M pc (mx_pop2a (pc + 1)) := by
  intro d k call hk hc ls st h r e
  unfold mx_pop2a at e
  split at e
  · obtain ⟨b1, e⟩ := mx_bt e
    obtain ⟨b1, b2⟩ := mx_and b1
    exact mx_G.step (hk _ _ _ _ _ e) (fun p e s m args below meth c R H locs cells slots Q la A hl K => lv_pop2_11 A.1 A.2.1 hd (mx_c1_v b1) (mx_c1_v b2) K)
  · cases e
theorem mx_s_pop2b (hd : decode M.1 pc = .ok (.pop2, 1)) : mx_Sn B M pc (mx_pop2b (pc + 1)) := by
  intro d k call hk hc ls st h r e
  unfold mx_pop2b at e
  split at e
  · obtain ⟨b1, e⟩ := mx_bf e
    exact mx_G.step (hk _ _ _ _ _ e) (fun p e s m args below meth c R H locs cells slots Q la A hl K => lv_pop2_2 A.1 A.2.1 hd (mx_c2_v b1) K)
  · cases e
theorem mx_s_dup2x1 (hd : decode M.1 pc = .ok (.dup2_x1, 1)) : mx_Sn B M pc (mx_dup2x1 (pc + 1)) := by
  intro d k call hk hc ls st h r e
  unfold mx_dup2x1 at e
  split at e
  · obtain ⟨b1, e⟩ := mx_bf e
    obtain ⟨b2, e⟩ := mx_bt e
    exact mx_G.step (hk _ _ _ _ _ e) (fun p e s m args below meth c R H locs cells slots Q la A hl K => lv_dup2_x1_2 A.1 A.2.1 hd (mx_c2_v b1) (mx_c1_v b2) K)
  · cases e
theorem mx_s_dup2x2 (hd : decode M.1 pc = .ok (.dup2_x2, 1)) : mx_Sn B M pc (mx_dup2x2 (pc + 1)) := by
  intro d k call hk hc ls st h r e
  unfold mx_dup2x2 at e
  split at e
  · obtain ⟨b1, e⟩ := mx_bf e
    obtain ⟨b2, e⟩ := mx_bt e
    obtain ⟨b2, b3⟩ := mx_and b2
    exact mx_G.step (hk _ _ _ _ _ e) (fun p e s m args below meth c R H locs cells slots Q la A hl K => lv_dup2_x2_2 A.1 A.2.1 hd (mx_c2_v b1) (mx_c1_v b2) (mx_c1_v b3) K)
  · cases e
end MXS
