section GW
/-! THE JUDGEMENT G: a frame of a method over an abstract heap h (real address -> thing). -/
abbrev gwC : Type := Launch × Nat × va_G × ClassId × ClassId × ClassId
abbrev gwY : Type := MethodName × ByteArray × Nat × Option FieldType × Room × List (Nat × Nat × Nat × Nat)
abbrev gwHp : Type := Nat → Option va_E
abbrev gwO : Type := Option Value ⊕ String
def gw_W : List Cond := lw_tbl.filter goodWord
theorem gw_in {w : Cond} (i : Nat) (h : lw_tbl[i]? = some w) (g : goodWord w = true) : w ∈ gw_W := List.mem_filter.mpr ⟨List.mem_of_getElem? h, g⟩
abbrev gw_A (B : Nat) : Nat → Prop := fun q => B ≤ q
abbrev gw_ty (Φ : gwC) : List (ClassId × FieldType) := [(Φ.2.2.2.1, .int), (Φ.2.2.2.2.1, .long), (Φ.2.2.2.2.2, .object RX4)]
def gw_up (h : gwHp) (a : Nat) (e : va_E) : gwHp := fun q => if q = a then some e else h q
abbrev gwI (Φ : gwC) (n : Nat) (f : Nat → Int32) : va_E := .inl (Φ.2.2.2.1, n, .inl f)
abbrev gwL (Φ : gwC) (n : Nat) (f : Nat → Int64) : va_E := .inl (Φ.2.2.2.2.1, n, .inr (.inl f))
abbrev gwR (Φ : gwC) (n : Nat) (f : Nat → Option Nat) : va_E := .inl (Φ.2.2.2.2.2, n, .inr (.inr (.inr (.inr f))))
def gw_strs : List (String × Nat × String) := [("SimplexDesk", 213, "there is no saved state"), ("SimplexDesk", 59, "a problem has 1 to 4 variables"), ("SimplexDesk", 401, "there is no such variable"), ("SimplexDesk", 410, "a profit or a coefficient is -9 to 9"), ("SimplexDesk", 412, "a bound is 0 to 99"), ("SimplexDesk", 106, "there are 4 constraints"), ("SimplexDesk", 404, "there is no such constraint"), ("SimplexDesk", 406, "there is no such row"), ("SimplexDesk", 408, "there is no such column"), ("SimplexDesk", 150, "this pivot is not possible"), ("SimplexDesk", 417, "the basis is optimal or has a ray"), ("SimplexDesk", 171, "a rule is 0 to 2")]
def gw_nc : List (String × String) := [("java/lang/IllegalArgumentException", "java/lang/IllegalStateException"), ("java/lang/IllegalArgumentException", "java/lang/IndexOutOfBoundsException"), ("java/lang/IllegalStateException", "java/lang/IllegalArgumentException"), ("java/lang/IllegalStateException", "java/lang/IndexOutOfBoundsException"), ("java/lang/IndexOutOfBoundsException", "java/lang/IllegalArgumentException"), ("java/lang/IndexOutOfBoundsException", "java/lang/IllegalStateException")]
def gw_isN : Cond → Bool
  | .fieldLinkNest _ _ _ _ _ _ => true
  | .methodLinkNest _ _ _ _ => true
  | .castable _ _ => true
  | .declares _ => true
  | .arrayOver (.object _) => true
  | _ => false
def gw_NW : List Cond := lw_tbl.filter gw_isN
theorem gw_inN {w : Cond} (i : Nat) (h : lw_tbl[i]? = some w) (g : gw_isN w = true) : w ∈ gw_NW := List.mem_filter.mpr ⟨List.mem_of_getElem? h, g⟩
theorem gw_NW.moved {w : Cond} (hw : w ∈ gw_NW) {s U : State} (hW : s.WarmedH U.vm) (hZ : va_Nw w s) : va_Nw w U := by
  have hg := (List.mem_filter.mp hw).2
  unfold gw_isN at hg
  split at hg
  · exact va_Nw.warmF hW hZ
  · exact va_Nw.warmM hW hZ
  · exact va_Nw.warmC hW hZ
  · exact va_Nw.warmD hW hZ
  · exact va_AO.moved hW.alike hZ
  · cases hg
/-- what holds of the world beside the heap's own things -/
def gw_E (Φ : gwC) (U : State) : Prop := va_K Φ.2.2.1 vwCl (gw_ty Φ) U ∧ vx_Zq Bundle.tN "UNASSIGNED_STACK" Bundle.steD (gw_A Φ.2.1) U U.heap ∧ vx_Zq Bundle.tN "SUPPRESSED_SENTINEL" Bundle.listD (gw_A Φ.2.1) U U.heap ∧ (∀ q ∈ gw_strs, ∃ sa, vk_R q.1 q.2.1 q.2.2 sa U) ∧ (∀ q ∈ gw_nc, va_Nc q.1 q.2 U) ∧ Φ.2.1 ≤ U.heap.size ∧ Φ.1.stackTraces = false ∧ ∀ w ∈ gw_NW, va_Nw w U
theorem gw_E.moved {Φ : gwC} {s U : State} {H : Heap} {locs : List Loc} (h : gw_E Φ s) (hS : va_S (gw_A Φ.2.1) s.heap H locs) (hU : U.heap = H) (hW : s.vm.Alike U.vm) (hW2 : s.WarmedH U.vm) : gw_E Φ U := by
  obtain ⟨hK, hU1, hN, hs, hn, hB, hl, hNW⟩ := h
  refine ⟨va_K.moved hW hK, ?_, ?_, fun q hq => ?_, fun q hq => ?_, ?_, hl, fun w hw => gw_NW.moved hw hW2 (hNW w hw)⟩
  · rw [hU]; exact vx_Zq.moved hW (hU1.kept hS.2.1)
  · rw [hU]; exact vx_Zq.moved hW (hN.kept hS.2.1)
  · obtain ⟨sa, h⟩ := hs q hq
    exact ⟨sa, vk_R.warm hW2 h⟩
  · exact va_Nc.moved hW (hn q hq)
  · rw [hU]; exact Nat.le_trans hB hS.1
/-- the abstract heap h lies in H -/
def gw_H (Φ : gwC) (h : gwHp) (H : Heap) : Prop := ∃ ws : va_W, (∀ q e, h q = some e → (q, e) ∈ ws) ∧ va_P Φ.2.2.1 vwCl ws H ∧ va_D (gw_A Φ.2.1) ws
theorem gw_H.one {Φ : gwC} {h : gwHp} {H : Heap} (hH : gw_H Φ h H) {a : Nat} {e : va_E} (ha : h a = some e) : va_P Φ.2.2.1 vwCl [(a, e)] H := by
  obtain ⟨ws, h1, h2, h3⟩ := hH
  obtain ⟨k, hk⟩ := List.getElem?_of_mem (h1 a e ha)
  intro j q hj
  match j, hj with
  | 0, hj => cases hj; exact h2 k _ hk
theorem gw_H.sup {Φ : gwC} {h : gwHp} {ws : va_W} {H1 : Heap} {a k : Nat} {e e' : va_E} (hD : va_D (gw_A Φ.2.1) ws) (h1 : ∀ q e, h q = some e → (q, e) ∈ ws) (hk : ws[k]? = some (a, e)) (hP1 : va_P Φ.2.2.1 vwCl (ws.set k (a, e')) H1) (hD1 : va_D (gw_A Φ.2.1) (ws.set k (a, e'))) : gw_H Φ (gw_up h a e') H1 := by
  refine ⟨ws.set k (a, e'), fun q e9 hq => ?_, hP1, hD1⟩
  have hlt : k < ws.length := (List.getElem?_eq_some_iff.mp hk).1
  unfold gw_up at hq
  by_cases hqa : q = a
  · rw [if_pos hqa] at hq
    cases hq
    subst hqa
    exact List.mem_of_getElem? (i := k) (by rw [List.getElem?_set_self hlt])
  · rw [if_neg hqa] at hq
    obtain ⟨j, hj⟩ := List.getElem?_of_mem (h1 q e9 hq)
    have hjk : k ≠ j := fun z => by
      subst z
      rw [hk] at hj
      cases hj
      exact hqa rfl
    exact List.mem_of_getElem? (i := j) (by rw [List.getElem?_set_ne hjk]; exact hj)
/-- a frame's own facts -/
def gw_Fr (Φ : gwC) (Y : gwY) (x : Option Nat) (p : Program) (s : State) (m : MethodId) (args : Array Value) (meth : Method) (c : Code) : Prop :=
  p.tables.exec = Jvm.exec ∧ c.code = Y.2.1 ∧ c.maxLocals = Y.2.2.1 ∧ meth.sig.returnType = Y.2.2.2.1 ∧ meth.locks = false ∧ s.vm.findClass Y.1.cls = some m.cls ∧ meth.name = Y.1.name ∧ c.exceptionTable.toList = tableOf Y.2.2.2.2.2 ∧ (∀ w ∈ gw_W, w.before args s = true) ∧ gw_E Φ s ∧ ∀ N, x = some N → s.heap.size = N
abbrev gwE : Type := List Frame → Array Value → State → State → Prop
def G (Φ : gwC) (Y : gwY) (E : gwE) (x : Option Nat) (cells slots pc : Nat) (lv : List (Nat × Value)) (st : List Value) (h : gwHp) : Prop :=
  ∀ (p : Program) (e : Env) (s : State) (m : MethodId) (args : Array Value) (below : List Frame) (meth : Method) (c : Code) (H : Heap) (locs : List Loc) (ls : Array Slot),
    gw_Fr Φ Y x p s m args meth c → gw_H Φ h H → va_S (gw_A Φ.2.1) s.heap H locs → lv_has ls Y.2.2.1 lv → W p Φ.1 e Y.2.2.2.2.1 s m args below meth c H locs cells slots (E below args s) (F0 m pc ls st)
/-- the same with an exception of class X thrown over it -/
def GX (Φ : gwC) (Y : gwY) (E : gwE) (x : Option Nat) (cells slots pc : Nat) (lv : List (Nat × Value)) (X : String) (h : gwHp) : Prop :=
  ∀ (p : Program) (e : Env) (s : State) (m : MethodId) (args : Array Value) (below : List Frame) (meth : Method) (c : Code) (H : Heap) (locs : List Loc) (ls : Array Slot) (rest : List Value) (q : Addr) (ce : Cell),
    gw_Fr Φ Y x p s m args meth c → gw_H Φ h H → va_S (gw_A Φ.2.1) s.heap H locs → lv_has ls Y.2.2.1 lv → H[q]? = some ce → ce.vm = .none → s.vm.findClass X = some ce.cls → vx_W p Φ.1 e Y.2.2.2.2.1 s m args below meth c H locs cells slots (E below args s) (F0 m pc ls rest) q
def lvG (lv : List (Nat × Value)) (i : Nat) : Option Value := (lv.find? (fun q => q.1 == i)).map (fun q => q.2)
def lvS1 (lv : List (Nat × Value)) (i : Nat) (v : Value) : List (Nat × Value) := (i, v) :: lv.filter (fun q => !(q.1 == i) && !(q.1 + 1 == i && q.2.category == 2))
def lvS2 (lv : List (Nat × Value)) (i : Nat) (v : Value) : List (Nat × Value) := (i, v) :: lv.filter (fun q => !(q.1 == i) && (!(q.1 == i + 1) && !(q.1 + 1 == i && q.2.category == 2)))
theorem lvG_mem {lv : List (Nat × Value)} {i : Nat} {v : Value} (h : lvG lv i = some v) : (i, v) ∈ lv := by
  unfold lvG at h
  obtain ⟨q, hq, hv⟩ := Option.map_eq_some_iff.mp h
  have h1 := List.find?_some hq
  have h2 := List.mem_of_find?_eq_some hq
  have h3 : q.1 = i := by simpa using h1
  rw [← h3, ← hv]
  exact h2
theorem lvG_at {ls : Array Slot} {nL : Nat} {lv : List (Nat × Value)} (h : lv_has ls nL lv) {i : Nat} {v : Value} (hk : lvG lv i = some v) : ls[i]? = some (.val v) := h.2.2 (i, v) (lvG_mem hk)
section GR
variable {Φ : gwC} {Y : gwY} {E : gwE} {x : Option Nat} {cells slots pc pc' : Nat} {lv lv' : List (Nat × Value)} {st : List Value} {h : gwHp}
theorem gw_W9 {k n : Nat} (h1 : cells ≤ k) (h2 : slots ≤ n) (kk : G Φ Y E x k n pc lv st h) : G Φ Y E x cells slots pc lv st h :=
  fun p e s m args below meth c H locs ls F hH hS hl => W.widen h1 h2 (kk p e s m args below meth c H locs ls F hH hS hl)
/-- fewer locals, in another order -/
theorem gw_L9 (hs : ∀ q ∈ lv', lvG lv q.1 = some q.2) (kk : G Φ Y E x cells slots pc lv' st h) : G Φ Y E x cells slots pc lv st h :=
  fun p e s m args below meth c H locs ls F hH hS hl => kk p e s m args below meth c H locs ls F hH hS ⟨hl.1, hl.2.1, fun q hq => lvG_at hl (hs q hq)⟩
/-- a smaller heap -/
theorem gw_H9 {h' : gwHp} (hs : ∀ q e, h' q = some e → h q = some e) (kk : G Φ Y E x cells slots pc lv st h') : G Φ Y E x cells slots pc lv st h :=
  fun p e s m args below meth c H locs ls F hH hS hl => kk p e s m args below meth c H locs ls F (by obtain ⟨ws, h1, h2, h3⟩ := hH; exact ⟨ws, fun q e hq => h1 q e (hs q e hq), h2, h3⟩) hS hl
theorem gw_iconst {n : Int} {v : Int32} (d : decode Y.2.1 pc = .ok (.iconst n, 1)) (e9 : pc + 1 = pc') (hv : Int32.ofInt n = v) (k : G Φ Y E x cells slots pc' lv (.int v :: st) h) : G Φ Y E x cells slots pc lv (st) h := by
  subst e9
  exact fun p e s m args below meth c H locs ls F hH hS hl => lv_iconst F.1 F.2.1 d hv (k p e s m args below meth c H locs ls F hH hS hl)
theorem gw_bipush {n : Int} {v : Int32} (d : decode Y.2.1 pc = .ok (.bipush n, 2)) (e9 : pc + 2 = pc') (hv : (Int8.ofInt n).toInt32 = v) (k : G Φ Y E x cells slots pc' lv (.int v :: st) h) : G Φ Y E x cells slots pc lv (st) h := by
  subst e9
  exact fun p e s m args below meth c H locs ls F hH hS hl => lv_bipush F.1 F.2.1 d hv (k p e s m args below meth c H locs ls F hH hS hl)
theorem gw_sipush {n : Int} {v : Int32} (d : decode Y.2.1 pc = .ok (.sipush n, 3)) (e9 : pc + 3 = pc') (hv : (Int16.ofInt n).toInt32 = v) (k : G Φ Y E x cells slots pc' lv (.int v :: st) h) : G Φ Y E x cells slots pc lv (st) h := by
  subst e9
  exact fun p e s m args below meth c H locs ls F hH hS hl => lv_sipush F.1 F.2.1 d hv (k p e s m args below meth c H locs ls F hH hS hl)
theorem gw_lconst {n : Fin 2} {v : Int64} (d : decode Y.2.1 pc = .ok (.lconst n, 1)) (e9 : pc + 1 = pc') (hv : Int64.ofNat (n : Nat) = v) (k : G Φ Y E x cells slots pc' lv (.long v :: st) h) : G Φ Y E x cells slots pc lv (st) h := by
  subst e9
  exact fun p e s m args below meth c H locs ls F hH hS hl => lv_lconst F.1 F.2.1 d hv (k p e s m args below meth c H locs ls F hH hS hl)
theorem gw_dconst0  (d : decode Y.2.1 pc = .ok (.dconst 0, 1)) (e9 : pc + 1 = pc')  (k : G Φ Y E x cells slots pc' lv (.double FP.dconst0 :: st) h) : G Φ Y E x cells slots pc lv (st) h := by
  subst e9
  exact fun p e s m args below meth c H locs ls F hH hS hl => lv_dconst0 F.1 F.2.1 d  (k p e s m args below meth c H locs ls F hH hS hl)
theorem gw_dconst1  (d : decode Y.2.1 pc = .ok (.dconst 1, 1)) (e9 : pc + 1 = pc')  (k : G Φ Y E x cells slots pc' lv (.double FP.dconst1 :: st) h) : G Φ Y E x cells slots pc lv (st) h := by
  subst e9
  exact fun p e s m args below meth c H locs ls F hH hS hl => lv_dconst1 F.1 F.2.1 d  (k p e s m args below meth c H locs ls F hH hS hl)
theorem gw_iload_n {k0 : Fin 4} {v : Int32} (d : decode Y.2.1 pc = .ok (.iload_n k0, 1)) (e9 : pc + 1 = pc') (hv : lvG lv (k0 : Nat) = some (.int v)) (k : G Φ Y E x cells slots pc' lv (.int v :: st) h) : G Φ Y E x cells slots pc lv (st) h := by
  subst e9
  exact fun p e s m args below meth c H locs ls F hH hS hl => lv_iload_n F.1 F.2.1 d rfl (lvG_at hl hv) (k p e s m args below meth c H locs ls F hH hS hl)
theorem gw_iload {i : Nat} {v : Int32} (d : decode Y.2.1 pc = .ok (.iload i, 2)) (e9 : pc + 2 = pc') (hv : lvG lv i = some (.int v)) (k : G Φ Y E x cells slots pc' lv (.int v :: st) h) : G Φ Y E x cells slots pc lv (st) h := by
  subst e9
  exact fun p e s m args below meth c H locs ls F hH hS hl => lv_iload F.1 F.2.1 d (lvG_at hl hv) (k p e s m args below meth c H locs ls F hH hS hl)
theorem gw_istore_n {k0 : Fin 4} {v : Int32} (d : decode Y.2.1 pc = .ok (.istore_n k0, 1)) (e9 : pc + 1 = pc') (hn : (k0 : Nat) < Y.2.2.1) (k : G Φ Y E x cells slots pc' (lvS1 lv (k0 : Nat) (.int v)) st h) : G Φ Y E x cells slots pc lv (.int v :: st) h := by
  subst e9
  exact fun p e s m args below meth c H locs ls F hH hS hl => lv_istore_n F.1 F.2.1 d rfl hl hn rfl (fun ls' hl' => k p e s m args below meth c H locs ls' F hH hS hl')
theorem gw_istore {i : Nat} {v : Int32} (d : decode Y.2.1 pc = .ok (.istore i, 2)) (e9 : pc + 2 = pc') (hn : i < Y.2.2.1) (k : G Φ Y E x cells slots pc' (lvS1 lv i (.int v)) st h) : G Φ Y E x cells slots pc lv (.int v :: st) h := by
  subst e9
  exact fun p e s m args below meth c H locs ls F hH hS hl => lv_istore F.1 F.2.1 d  hl hn rfl (fun ls' hl' => k p e s m args below meth c H locs ls' F hH hS hl')
theorem gw_lload_n {k0 : Fin 4} {v : Int64} (d : decode Y.2.1 pc = .ok (.lload_n k0, 1)) (e9 : pc + 1 = pc') (hv : lvG lv (k0 : Nat) = some (.long v)) (k : G Φ Y E x cells slots pc' lv (.long v :: st) h) : G Φ Y E x cells slots pc lv (st) h := by
  subst e9
  exact fun p e s m args below meth c H locs ls F hH hS hl => lv_lload_n F.1 F.2.1 d rfl (lvG_at hl hv) (k p e s m args below meth c H locs ls F hH hS hl)
theorem gw_lload {i : Nat} {v : Int64} (d : decode Y.2.1 pc = .ok (.lload i, 2)) (e9 : pc + 2 = pc') (hv : lvG lv i = some (.long v)) (k : G Φ Y E x cells slots pc' lv (.long v :: st) h) : G Φ Y E x cells slots pc lv (st) h := by
  subst e9
  exact fun p e s m args below meth c H locs ls F hH hS hl => lv_lload F.1 F.2.1 d (lvG_at hl hv) (k p e s m args below meth c H locs ls F hH hS hl)
theorem gw_lstore_n {k0 : Fin 4} {v : Int64} (d : decode Y.2.1 pc = .ok (.lstore_n k0, 1)) (e9 : pc + 1 = pc') (hn : (k0 : Nat) + 1 < Y.2.2.1) (k : G Φ Y E x cells slots pc' (lvS2 lv (k0 : Nat) (.long v)) st h) : G Φ Y E x cells slots pc lv (.long v :: st) h := by
  subst e9
  exact fun p e s m args below meth c H locs ls F hH hS hl => lv_lstore_n F.1 F.2.1 d rfl hl hn rfl (fun ls' hl' => k p e s m args below meth c H locs ls' F hH hS hl')
theorem gw_lstore {i : Nat} {v : Int64} (d : decode Y.2.1 pc = .ok (.lstore i, 2)) (e9 : pc + 2 = pc') (hn : i + 1 < Y.2.2.1) (k : G Φ Y E x cells slots pc' (lvS2 lv i (.long v)) st h) : G Φ Y E x cells slots pc lv (.long v :: st) h := by
  subst e9
  exact fun p e s m args below meth c H locs ls F hH hS hl => lv_lstore F.1 F.2.1 d  hl hn rfl (fun ls' hl' => k p e s m args below meth c H locs ls' F hH hS hl')
theorem gw_dload_n {k0 : Fin 4} {v : UInt64} (d : decode Y.2.1 pc = .ok (.dload_n k0, 1)) (e9 : pc + 1 = pc') (hv : lvG lv (k0 : Nat) = some (.double v)) (k : G Φ Y E x cells slots pc' lv (.double v :: st) h) : G Φ Y E x cells slots pc lv (st) h := by
  subst e9
  exact fun p e s m args below meth c H locs ls F hH hS hl => lv_dload_n F.1 F.2.1 d rfl (lvG_at hl hv) (k p e s m args below meth c H locs ls F hH hS hl)
theorem gw_dload {i : Nat} {v : UInt64} (d : decode Y.2.1 pc = .ok (.dload i, 2)) (e9 : pc + 2 = pc') (hv : lvG lv i = some (.double v)) (k : G Φ Y E x cells slots pc' lv (.double v :: st) h) : G Φ Y E x cells slots pc lv (st) h := by
  subst e9
  exact fun p e s m args below meth c H locs ls F hH hS hl => lv_dload F.1 F.2.1 d (lvG_at hl hv) (k p e s m args below meth c H locs ls F hH hS hl)
theorem gw_dstore_n {k0 : Fin 4} {v : UInt64} (d : decode Y.2.1 pc = .ok (.dstore_n k0, 1)) (e9 : pc + 1 = pc') (hn : (k0 : Nat) + 1 < Y.2.2.1) (k : G Φ Y E x cells slots pc' (lvS2 lv (k0 : Nat) (.double v)) st h) : G Φ Y E x cells slots pc lv (.double v :: st) h := by
  subst e9
  exact fun p e s m args below meth c H locs ls F hH hS hl => lv_dstore_n F.1 F.2.1 d rfl hl hn rfl (fun ls' hl' => k p e s m args below meth c H locs ls' F hH hS hl')
theorem gw_dstore {i : Nat} {v : UInt64} (d : decode Y.2.1 pc = .ok (.dstore i, 2)) (e9 : pc + 2 = pc') (hn : i + 1 < Y.2.2.1) (k : G Φ Y E x cells slots pc' (lvS2 lv i (.double v)) st h) : G Φ Y E x cells slots pc lv (.double v :: st) h := by
  subst e9
  exact fun p e s m args below meth c H locs ls F hH hS hl => lv_dstore F.1 F.2.1 d  hl hn rfl (fun ls' hl' => k p e s m args below meth c H locs ls' F hH hS hl')
theorem gw_aload_n {k0 : Fin 4} {v : Nat} (d : decode Y.2.1 pc = .ok (.aload_n k0, 1)) (e9 : pc + 1 = pc') (hv : lvG lv (k0 : Nat) = some (.ref v)) (k : G Φ Y E x cells slots pc' lv (.ref v :: st) h) : G Φ Y E x cells slots pc lv (st) h := by
  subst e9
  exact fun p e s m args below meth c H locs ls F hH hS hl => lv_aload_n F.1 F.2.1 d rfl (lvG_at hl hv) (k p e s m args below meth c H locs ls F hH hS hl)
theorem gw_aload {i : Nat} {v : Nat} (d : decode Y.2.1 pc = .ok (.aload i, 2)) (e9 : pc + 2 = pc') (hv : lvG lv i = some (.ref v)) (k : G Φ Y E x cells slots pc' lv (.ref v :: st) h) : G Φ Y E x cells slots pc lv (st) h := by
  subst e9
  exact fun p e s m args below meth c H locs ls F hH hS hl => lv_aload F.1 F.2.1 d (lvG_at hl hv) (k p e s m args below meth c H locs ls F hH hS hl)
theorem gw_astore_n {k0 : Fin 4} {v : Nat} (d : decode Y.2.1 pc = .ok (.astore_n k0, 1)) (e9 : pc + 1 = pc') (hn : (k0 : Nat) < Y.2.2.1) (k : G Φ Y E x cells slots pc' (lvS1 lv (k0 : Nat) (.ref v)) st h) : G Φ Y E x cells slots pc lv (.ref v :: st) h := by
  subst e9
  exact fun p e s m args below meth c H locs ls F hH hS hl => lv_astore_n F.1 F.2.1 d rfl hl hn rfl (fun ls' hl' => k p e s m args below meth c H locs ls' F hH hS hl')
theorem gw_astore {i : Nat} {v : Nat} (d : decode Y.2.1 pc = .ok (.astore i, 2)) (e9 : pc + 2 = pc') (hn : i < Y.2.2.1) (k : G Φ Y E x cells slots pc' (lvS1 lv i (.ref v)) st h) : G Φ Y E x cells slots pc lv (.ref v :: st) h := by
  subst e9
  exact fun p e s m args below meth c H locs ls F hH hS hl => lv_astore F.1 F.2.1 d  hl hn rfl (fun ls' hl' => k p e s m args below meth c H locs ls' F hH hS hl')
theorem gw_iinc {i : Nat} {n : Int} {v w : Int32} (d : decode Y.2.1 pc = .ok (.iinc i n, 3)) (e9 : pc + 3 = pc') (hv : lvG lv i = some (.int v)) (hw : v + Int32.ofInt n = w) (hn : i < Y.2.2.1) (k : G Φ Y E x cells slots pc' (lvS1 lv i (.int w)) st h) : G Φ Y E x cells slots pc lv st h := by
  subst e9
  intro p e s m args below meth c H locs ls F hH hS hl
  obtain ⟨j, hj⟩ := List.getElem?_of_mem (lvG_mem hv)
  exact lv_iinc F.1 F.2.1 d hl hj hw hn rfl (fun ls' hl' => k p e s m args below meth c H locs ls' F hH hS hl')
theorem gw_iadd {x9 y9 : Int32} (d : decode Y.2.1 pc = .ok (.iadd, 1)) (e9 : pc + 1 = pc')  (k : G Φ Y E x cells slots pc' lv (.int (x9 + y9) :: st) h) : G Φ Y E x cells slots pc lv (.int y9 :: .int x9 :: st) h := by
  subst e9
  exact fun p e s m args below meth c H locs ls F hH hS hl => lv_iadd F.1 F.2.1 d  (k p e s m args below meth c H locs ls F hH hS hl)
theorem gw_isub {x9 y9 : Int32} (d : decode Y.2.1 pc = .ok (.isub, 1)) (e9 : pc + 1 = pc')  (k : G Φ Y E x cells slots pc' lv (.int (x9 - y9) :: st) h) : G Φ Y E x cells slots pc lv (.int y9 :: .int x9 :: st) h := by
  subst e9
  exact fun p e s m args below meth c H locs ls F hH hS hl => lv_isub F.1 F.2.1 d  (k p e s m args below meth c H locs ls F hH hS hl)
theorem gw_imul {x9 y9 : Int32} (d : decode Y.2.1 pc = .ok (.imul, 1)) (e9 : pc + 1 = pc')  (k : G Φ Y E x cells slots pc' lv (.int (x9 * y9) :: st) h) : G Φ Y E x cells slots pc lv (.int y9 :: .int x9 :: st) h := by
  subst e9
  exact fun p e s m args below meth c H locs ls F hH hS hl => lv_imul F.1 F.2.1 d  (k p e s m args below meth c H locs ls F hH hS hl)
theorem gw_iand {x9 y9 : Int32} (d : decode Y.2.1 pc = .ok (.iand, 1)) (e9 : pc + 1 = pc')  (k : G Φ Y E x cells slots pc' lv (.int (x9 &&& y9) :: st) h) : G Φ Y E x cells slots pc lv (.int y9 :: .int x9 :: st) h := by
  subst e9
  exact fun p e s m args below meth c H locs ls F hH hS hl => lv_iand F.1 F.2.1 d  (k p e s m args below meth c H locs ls F hH hS hl)
theorem gw_ior {x9 y9 : Int32} (d : decode Y.2.1 pc = .ok (.ior, 1)) (e9 : pc + 1 = pc')  (k : G Φ Y E x cells slots pc' lv (.int (x9 ||| y9) :: st) h) : G Φ Y E x cells slots pc lv (.int y9 :: .int x9 :: st) h := by
  subst e9
  exact fun p e s m args below meth c H locs ls F hH hS hl => lv_ior F.1 F.2.1 d  (k p e s m args below meth c H locs ls F hH hS hl)
theorem gw_ladd {x9 y9 : Int64} (d : decode Y.2.1 pc = .ok (.ladd, 1)) (e9 : pc + 1 = pc')  (k : G Φ Y E x cells slots pc' lv (.long (x9 + y9) :: st) h) : G Φ Y E x cells slots pc lv (.long y9 :: .long x9 :: st) h := by
  subst e9
  exact fun p e s m args below meth c H locs ls F hH hS hl => lv_ladd F.1 F.2.1 d  (k p e s m args below meth c H locs ls F hH hS hl)
theorem gw_lsub {x9 y9 : Int64} (d : decode Y.2.1 pc = .ok (.lsub, 1)) (e9 : pc + 1 = pc')  (k : G Φ Y E x cells slots pc' lv (.long (x9 - y9) :: st) h) : G Φ Y E x cells slots pc lv (.long y9 :: .long x9 :: st) h := by
  subst e9
  exact fun p e s m args below meth c H locs ls F hH hS hl => lv_lsub F.1 F.2.1 d  (k p e s m args below meth c H locs ls F hH hS hl)
theorem gw_lmul {x9 y9 : Int64} (d : decode Y.2.1 pc = .ok (.lmul, 1)) (e9 : pc + 1 = pc')  (k : G Φ Y E x cells slots pc' lv (.long (x9 * y9) :: st) h) : G Φ Y E x cells slots pc lv (.long y9 :: .long x9 :: st) h := by
  subst e9
  exact fun p e s m args below meth c H locs ls F hH hS hl => lv_lmul F.1 F.2.1 d  (k p e s m args below meth c H locs ls F hH hS hl)
theorem gw_idiv {x9 y9 : Int32} (d : decode Y.2.1 pc = .ok (.idiv, 1)) (e9 : pc + 1 = pc') (hne : ¬ y9 = 0) (k : G Φ Y E x cells slots pc' lv (.int (x9 / y9) :: st) h) : G Φ Y E x cells slots pc lv (.int y9 :: .int x9 :: st) h := by
  subst e9
  exact fun p e s m args below meth c H locs ls F hH hS hl => lv_idiv F.1 F.2.1 d hne (k p e s m args below meth c H locs ls F hH hS hl)
theorem gw_irem {x9 y9 : Int32} (d : decode Y.2.1 pc = .ok (.irem, 1)) (e9 : pc + 1 = pc') (hne : ¬ y9 = 0) (k : G Φ Y E x cells slots pc' lv (.int (x9 - x9 / y9 * y9) :: st) h) : G Φ Y E x cells slots pc lv (.int y9 :: .int x9 :: st) h := by
  subst e9
  exact fun p e s m args below meth c H locs ls F hH hS hl => lv_irem F.1 F.2.1 d hne (k p e s m args below meth c H locs ls F hH hS hl)
theorem gw_ldiv {x9 y9 : Int64} (d : decode Y.2.1 pc = .ok (.ldiv, 1)) (e9 : pc + 1 = pc') (hne : ¬ y9 = 0) (k : G Φ Y E x cells slots pc' lv (.long (x9 / y9) :: st) h) : G Φ Y E x cells slots pc lv (.long y9 :: .long x9 :: st) h := by
  subst e9
  exact fun p e s m args below meth c H locs ls F hH hS hl => lv_ldiv F.1 F.2.1 d hne (k p e s m args below meth c H locs ls F hH hS hl)
theorem gw_lrem {x9 y9 : Int64} (d : decode Y.2.1 pc = .ok (.lrem, 1)) (e9 : pc + 1 = pc') (hne : ¬ y9 = 0) (k : G Φ Y E x cells slots pc' lv (.long (x9 - x9 / y9 * y9) :: st) h) : G Φ Y E x cells slots pc lv (.long y9 :: .long x9 :: st) h := by
  subst e9
  exact fun p e s m args below meth c H locs ls F hH hS hl => lv_lrem F.1 F.2.1 d hne (k p e s m args below meth c H locs ls F hH hS hl)
theorem gw_ineg {x9 : Int32} (d : decode Y.2.1 pc = .ok (.ineg, 1)) (e9 : pc + 1 = pc')  (k : G Φ Y E x cells slots pc' lv (.int (-x9) :: st) h) : G Φ Y E x cells slots pc lv (.int x9 :: st) h := by
  subst e9
  exact fun p e s m args below meth c H locs ls F hH hS hl => lv_ineg F.1 F.2.1 d  (k p e s m args below meth c H locs ls F hH hS hl)
theorem gw_lneg {x9 : Int64} (d : decode Y.2.1 pc = .ok (.lneg, 1)) (e9 : pc + 1 = pc')  (k : G Φ Y E x cells slots pc' lv (.long (-x9) :: st) h) : G Φ Y E x cells slots pc lv (.long x9 :: st) h := by
  subst e9
  exact fun p e s m args below meth c H locs ls F hH hS hl => lv_lneg F.1 F.2.1 d  (k p e s m args below meth c H locs ls F hH hS hl)
theorem gw_ishl {x9 y9 : Int32} (d : decode Y.2.1 pc = .ok (.ishl, 1)) (e9 : pc + 1 = pc')  (k : G Φ Y E x cells slots pc' lv (.int (x9 <<< (y9 &&& 31)) :: st) h) : G Φ Y E x cells slots pc lv (.int y9 :: .int x9 :: st) h := by
  subst e9
  exact fun p e s m args below meth c H locs ls F hH hS hl => lv_ishl F.1 F.2.1 d  (k p e s m args below meth c H locs ls F hH hS hl)
theorem gw_ishr {x9 y9 : Int32} (d : decode Y.2.1 pc = .ok (.ishr, 1)) (e9 : pc + 1 = pc')  (k : G Φ Y E x cells slots pc' lv (.int (x9 >>> (y9 &&& 31)) :: st) h) : G Φ Y E x cells slots pc lv (.int y9 :: .int x9 :: st) h := by
  subst e9
  exact fun p e s m args below meth c H locs ls F hH hS hl => lv_ishr F.1 F.2.1 d  (k p e s m args below meth c H locs ls F hH hS hl)
theorem gw_lshl {x9 : Int64} {y9 : Int32} (d : decode Y.2.1 pc = .ok (.lshl, 1)) (e9 : pc + 1 = pc')  (k : G Φ Y E x cells slots pc' lv (.long (x9 <<< (y9.toInt64 &&& 63)) :: st) h) : G Φ Y E x cells slots pc lv (.int y9 :: .long x9 :: st) h := by
  subst e9
  exact fun p e s m args below meth c H locs ls F hH hS hl => lv_lshl F.1 F.2.1 d rfl (k p e s m args below meth c H locs ls F hH hS hl)
theorem gw_iushr {x9 y9 v : Int32} (d : decode Y.2.1 pc = .ok (.iushr, 1)) (e9 : pc + 1 = pc') (hv : (x9.toUInt32 >>> (y9.toUInt32 &&& Int32.toUInt32 31)).toInt32 = v) (k : G Φ Y E x cells slots pc' lv (.int v :: st) h) : G Φ Y E x cells slots pc lv (.int y9 :: .int x9 :: st) h := by
  subst e9
  exact fun p e s m args below meth c H locs ls F hH hS hl => lv_iushr F.1 F.2.1 d hv (k p e s m args below meth c H locs ls F hH hS hl)
theorem gw_i2l {x9 : Int32} (d : decode Y.2.1 pc = .ok (.i2l, 1)) (e9 : pc + 1 = pc')  (k : G Φ Y E x cells slots pc' lv (.long x9.toInt64 :: st) h) : G Φ Y E x cells slots pc lv (.int x9 :: st) h := by
  subst e9
  exact fun p e s m args below meth c H locs ls F hH hS hl => lv_i2l F.1 F.2.1 d rfl (k p e s m args below meth c H locs ls F hH hS hl)
theorem gw_l2i {x9 : Int64} (d : decode Y.2.1 pc = .ok (.l2i, 1)) (e9 : pc + 1 = pc')  (k : G Φ Y E x cells slots pc' lv (.int x9.toInt32 :: st) h) : G Φ Y E x cells slots pc lv (.long x9 :: st) h := by
  subst e9
  exact fun p e s m args below meth c H locs ls F hH hS hl => lv_l2i F.1 F.2.1 d rfl (k p e s m args below meth c H locs ls F hH hS hl)
theorem gw_l2d {x9 : Int64} (d : decode Y.2.1 pc = .ok (.l2d, 1)) (e9 : pc + 1 = pc')  (k : G Φ Y E x cells slots pc' lv (.double (FP.l2d x9) :: st) h) : G Φ Y E x cells slots pc lv (.long x9 :: st) h := by
  subst e9
  exact fun p e s m args below meth c H locs ls F hH hS hl => lv_l2d F.1 F.2.1 d  (k p e s m args below meth c H locs ls F hH hS hl)
theorem gw_d2l {x9 : UInt64} (d : decode Y.2.1 pc = .ok (.d2l, 1)) (e9 : pc + 1 = pc')  (k : G Φ Y E x cells slots pc' lv (.long (FP.d2l x9) :: st) h) : G Φ Y E x cells slots pc lv (.double x9 :: st) h := by
  subst e9
  exact fun p e s m args below meth c H locs ls F hH hS hl => lv_d2l F.1 F.2.1 d  (k p e s m args below meth c H locs ls F hH hS hl)
theorem gw_ddiv {x9 y9 : UInt64} (d : decode Y.2.1 pc = .ok (.ddiv, 1)) (e9 : pc + 1 = pc') (hne : vf_n64 (FP.ddiv x9 y9)) (k : G Φ Y E x cells slots pc' lv (.double (FP.ddiv x9 y9) :: st) h) : G Φ Y E x cells slots pc lv (.double y9 :: .double x9 :: st) h := by
  subst e9
  exact fun p e s m args below meth c H locs ls F hH hS hl => lv_ddiv F.1 F.2.1 d hne (k p e s m args below meth c H locs ls F hH hS hl)
theorem gw_dmul {x9 y9 : UInt64} (d : decode Y.2.1 pc = .ok (.dmul, 1)) (e9 : pc + 1 = pc') (hne : vf_n64 (FP.dmul x9 y9)) (k : G Φ Y E x cells slots pc' lv (.double (FP.dmul x9 y9) :: st) h) : G Φ Y E x cells slots pc lv (.double y9 :: .double x9 :: st) h := by
  subst e9
  exact fun p e s m args below meth c H locs ls F hH hS hl => lv_dmul F.1 F.2.1 d hne (k p e s m args below meth c H locs ls F hH hS hl)
theorem gw_dsub {x9 y9 : UInt64} (d : decode Y.2.1 pc = .ok (.dsub, 1)) (e9 : pc + 1 = pc') (hne : vf_n64 (FP.dsub x9 y9)) (k : G Φ Y E x cells slots pc' lv (.double (FP.dsub x9 y9) :: st) h) : G Φ Y E x cells slots pc lv (.double y9 :: .double x9 :: st) h := by
  subst e9
  exact fun p e s m args below meth c H locs ls F hH hS hl => lv_dsub F.1 F.2.1 d hne (k p e s m args below meth c H locs ls F hH hS hl)
theorem gw_dcmp {x9 y9 : UInt64} {op : CmpOp} (d : decode Y.2.1 pc = .ok (.dcmp op, 1)) (e9 : pc + 1 = pc')  (k : G Φ Y E x cells slots pc' lv (.int (Op.cmpValue (FP.dcmp x9 y9) op) :: st) h) : G Φ Y E x cells slots pc lv (.double y9 :: .double x9 :: st) h := by
  subst e9
  exact fun p e s m args below meth c H locs ls F hH hS hl => lv_dcmp F.1 F.2.1 d  (k p e s m args below meth c H locs ls F hH hS hl)
theorem gw_dup {v : Value} (d : decode Y.2.1 pc = .ok (.dup, 1)) (e9 : pc + 1 = pc') (hv : v.category = 1) (k : G Φ Y E x cells slots pc' lv (v :: v :: st) h) : G Φ Y E x cells slots pc lv (v :: st) h := by
  subst e9
  exact fun p e s m args below meth c H locs ls F hH hS hl => lv_dup F.1 F.2.1 d hv (k p e s m args below meth c H locs ls F hH hS hl)
theorem gw_pop {v : Value} (d : decode Y.2.1 pc = .ok (.pop, 1)) (e9 : pc + 1 = pc') (hv : v.category = 1) (k : G Φ Y E x cells slots pc' lv (st) h) : G Φ Y E x cells slots pc lv (v :: st) h := by
  subst e9
  exact fun p e s m args below meth c H locs ls F hH hS hl => lv_pop F.1 F.2.1 d hv (k p e s m args below meth c H locs ls F hH hS hl)
theorem gw_dup2 {v w : Value} (d : decode Y.2.1 pc = .ok (.dup2, 1)) (e9 : pc + 1 = pc') (hv : v.category = 1) (hw : w.category = 1) (k : G Φ Y E x cells slots pc' lv (v :: w :: v :: w :: st) h) : G Φ Y E x cells slots pc lv (v :: w :: st) h := by
  subst e9
  exact fun p e s m args below meth c H locs ls F hH hS hl => lv_dup2_11 F.1 F.2.1 d hv hw (k p e s m args below meth c H locs ls F hH hS hl)
theorem gw_if_eq {x9 : Int32} {off : Int} {tgt : Nat} (d : decode Y.2.1 pc = .ok (.ifCond .eq off, 3)) (e9 : pc + 3 = pc') (ht : (pc : Int) + off = (tgt : Int)) (kt : x9 = 0 → G Φ Y E x cells slots tgt lv st h) (kf : ¬ x9 = 0 → G Φ Y E x cells slots pc' lv st h) : G Φ Y E x cells slots pc lv (.int x9 :: st) h := by
  subst e9
  exact fun p e s m args below meth c H locs ls F hH hS hl => lv_if_eq F.1 F.2.1 d ht (fun z => kt z p e s m args below meth c H locs ls F hH hS hl) (fun z => kf z p e s m args below meth c H locs ls F hH hS hl)
theorem gw_if_ne {x9 : Int32} {off : Int} {tgt : Nat} (d : decode Y.2.1 pc = .ok (.ifCond .ne off, 3)) (e9 : pc + 3 = pc') (ht : (pc : Int) + off = (tgt : Int)) (kt : ¬ x9 = 0 → G Φ Y E x cells slots tgt lv st h) (kf : x9 = 0 → G Φ Y E x cells slots pc' lv st h) : G Φ Y E x cells slots pc lv (.int x9 :: st) h := by
  subst e9
  exact fun p e s m args below meth c H locs ls F hH hS hl => lv_if_ne F.1 F.2.1 d ht (fun z => kt z p e s m args below meth c H locs ls F hH hS hl) (fun z => kf z p e s m args below meth c H locs ls F hH hS hl)
theorem gw_if_lt {x9 : Int32} {off : Int} {tgt : Nat} (d : decode Y.2.1 pc = .ok (.ifCond .lt off, 3)) (e9 : pc + 3 = pc') (ht : (pc : Int) + off = (tgt : Int)) (kt : x9 < 0 → G Φ Y E x cells slots tgt lv st h) (kf : ¬ x9 < 0 → G Φ Y E x cells slots pc' lv st h) : G Φ Y E x cells slots pc lv (.int x9 :: st) h := by
  subst e9
  exact fun p e s m args below meth c H locs ls F hH hS hl => lv_if_lt F.1 F.2.1 d ht (fun z => kt z p e s m args below meth c H locs ls F hH hS hl) (fun z => kf z p e s m args below meth c H locs ls F hH hS hl)
theorem gw_if_ge {x9 : Int32} {off : Int} {tgt : Nat} (d : decode Y.2.1 pc = .ok (.ifCond .ge off, 3)) (e9 : pc + 3 = pc') (ht : (pc : Int) + off = (tgt : Int)) (kt : 0 ≤ x9 → G Φ Y E x cells slots tgt lv st h) (kf : ¬ 0 ≤ x9 → G Φ Y E x cells slots pc' lv st h) : G Φ Y E x cells slots pc lv (.int x9 :: st) h := by
  subst e9
  exact fun p e s m args below meth c H locs ls F hH hS hl => lv_if_ge F.1 F.2.1 d ht (fun z => kt z p e s m args below meth c H locs ls F hH hS hl) (fun z => kf z p e s m args below meth c H locs ls F hH hS hl)
theorem gw_if_gt {x9 : Int32} {off : Int} {tgt : Nat} (d : decode Y.2.1 pc = .ok (.ifCond .gt off, 3)) (e9 : pc + 3 = pc') (ht : (pc : Int) + off = (tgt : Int)) (kt : 0 < x9 → G Φ Y E x cells slots tgt lv st h) (kf : ¬ 0 < x9 → G Φ Y E x cells slots pc' lv st h) : G Φ Y E x cells slots pc lv (.int x9 :: st) h := by
  subst e9
  exact fun p e s m args below meth c H locs ls F hH hS hl => lv_if_gt F.1 F.2.1 d ht (fun z => kt z p e s m args below meth c H locs ls F hH hS hl) (fun z => kf z p e s m args below meth c H locs ls F hH hS hl)
theorem gw_if_le {x9 : Int32} {off : Int} {tgt : Nat} (d : decode Y.2.1 pc = .ok (.ifCond .le off, 3)) (e9 : pc + 3 = pc') (ht : (pc : Int) + off = (tgt : Int)) (kt : x9 ≤ 0 → G Φ Y E x cells slots tgt lv st h) (kf : ¬ x9 ≤ 0 → G Φ Y E x cells slots pc' lv st h) : G Φ Y E x cells slots pc lv (.int x9 :: st) h := by
  subst e9
  exact fun p e s m args below meth c H locs ls F hH hS hl => lv_if_le F.1 F.2.1 d ht (fun z => kt z p e s m args below meth c H locs ls F hH hS hl) (fun z => kf z p e s m args below meth c H locs ls F hH hS hl)
theorem gw_icmp_eq {x9 y9 : Int32} {off : Int} {tgt : Nat} (d : decode Y.2.1 pc = .ok (.if_icmp .eq off, 3)) (e9 : pc + 3 = pc') (ht : (pc : Int) + off = (tgt : Int)) (kt : x9 = y9 → G Φ Y E x cells slots tgt lv st h) (kf : ¬ x9 = y9 → G Φ Y E x cells slots pc' lv st h) : G Φ Y E x cells slots pc lv (.int y9 :: .int x9 :: st) h := by
  subst e9
  exact fun p e s m args below meth c H locs ls F hH hS hl => lv_icmp_eq F.1 F.2.1 d ht (fun z => kt z p e s m args below meth c H locs ls F hH hS hl) (fun z => kf z p e s m args below meth c H locs ls F hH hS hl)
theorem gw_icmp_ne {x9 y9 : Int32} {off : Int} {tgt : Nat} (d : decode Y.2.1 pc = .ok (.if_icmp .ne off, 3)) (e9 : pc + 3 = pc') (ht : (pc : Int) + off = (tgt : Int)) (kt : ¬ x9 = y9 → G Φ Y E x cells slots tgt lv st h) (kf : x9 = y9 → G Φ Y E x cells slots pc' lv st h) : G Φ Y E x cells slots pc lv (.int y9 :: .int x9 :: st) h := by
  subst e9
  exact fun p e s m args below meth c H locs ls F hH hS hl => lv_icmp_ne F.1 F.2.1 d ht (fun z => kt z p e s m args below meth c H locs ls F hH hS hl) (fun z => kf z p e s m args below meth c H locs ls F hH hS hl)
theorem gw_icmp_lt {x9 y9 : Int32} {off : Int} {tgt : Nat} (d : decode Y.2.1 pc = .ok (.if_icmp .lt off, 3)) (e9 : pc + 3 = pc') (ht : (pc : Int) + off = (tgt : Int)) (kt : x9 < y9 → G Φ Y E x cells slots tgt lv st h) (kf : ¬ x9 < y9 → G Φ Y E x cells slots pc' lv st h) : G Φ Y E x cells slots pc lv (.int y9 :: .int x9 :: st) h := by
  subst e9
  exact fun p e s m args below meth c H locs ls F hH hS hl => lv_icmp_lt F.1 F.2.1 d ht (fun z => kt z p e s m args below meth c H locs ls F hH hS hl) (fun z => kf z p e s m args below meth c H locs ls F hH hS hl)
theorem gw_icmp_ge {x9 y9 : Int32} {off : Int} {tgt : Nat} (d : decode Y.2.1 pc = .ok (.if_icmp .ge off, 3)) (e9 : pc + 3 = pc') (ht : (pc : Int) + off = (tgt : Int)) (kt : y9 ≤ x9 → G Φ Y E x cells slots tgt lv st h) (kf : ¬ y9 ≤ x9 → G Φ Y E x cells slots pc' lv st h) : G Φ Y E x cells slots pc lv (.int y9 :: .int x9 :: st) h := by
  subst e9
  exact fun p e s m args below meth c H locs ls F hH hS hl => lv_icmp_ge F.1 F.2.1 d ht (fun z => kt z p e s m args below meth c H locs ls F hH hS hl) (fun z => kf z p e s m args below meth c H locs ls F hH hS hl)
theorem gw_icmp_gt {x9 y9 : Int32} {off : Int} {tgt : Nat} (d : decode Y.2.1 pc = .ok (.if_icmp .gt off, 3)) (e9 : pc + 3 = pc') (ht : (pc : Int) + off = (tgt : Int)) (kt : y9 < x9 → G Φ Y E x cells slots tgt lv st h) (kf : ¬ y9 < x9 → G Φ Y E x cells slots pc' lv st h) : G Φ Y E x cells slots pc lv (.int y9 :: .int x9 :: st) h := by
  subst e9
  exact fun p e s m args below meth c H locs ls F hH hS hl => lv_icmp_gt F.1 F.2.1 d ht (fun z => kt z p e s m args below meth c H locs ls F hH hS hl) (fun z => kf z p e s m args below meth c H locs ls F hH hS hl)
theorem gw_icmp_le {x9 y9 : Int32} {off : Int} {tgt : Nat} (d : decode Y.2.1 pc = .ok (.if_icmp .le off, 3)) (e9 : pc + 3 = pc') (ht : (pc : Int) + off = (tgt : Int)) (kt : x9 ≤ y9 → G Φ Y E x cells slots tgt lv st h) (kf : ¬ x9 ≤ y9 → G Φ Y E x cells slots pc' lv st h) : G Φ Y E x cells slots pc lv (.int y9 :: .int x9 :: st) h := by
  subst e9
  exact fun p e s m args below meth c H locs ls F hH hS hl => lv_icmp_le F.1 F.2.1 d ht (fun z => kt z p e s m args below meth c H locs ls F hH hS hl) (fun z => kf z p e s m args below meth c H locs ls F hH hS hl)
theorem gw_lcmp {x9 y9 : Int64} (d : decode Y.2.1 pc = .ok (.lcmp, 1)) (e9 : pc + 1 = pc')  (k : G Φ Y E x cells slots pc' lv (.int (lg_cmp x9 y9) :: st) h) : G Φ Y E x cells slots pc lv (.long y9 :: .long x9 :: st) h := by
  subst e9
  exact fun p e s m args below meth c H locs ls F hH hS hl => W.lcmp F.1 F.2.1 d  (k p e s m args below meth c H locs ls F hH hS hl)
theorem gw_lc_eq {x9 y9 : Int64} {off : Int} {tgt pc1 : Nat} (d1 : decode Y.2.1 pc = .ok (.lcmp, 1)) (e1 : pc + 1 = pc1) (d : decode Y.2.1 pc1 = .ok (.ifCond .eq off, 3)) (e9 : pc1 + 3 = pc') (ht : (pc1 : Int) + off = (tgt : Int)) (kt : x9 = y9 → G Φ Y E x cells slots tgt lv st h) (kf : ¬ x9 = y9 → G Φ Y E x cells slots pc' lv st h) : G Φ Y E x cells slots pc lv (.long y9 :: .long x9 :: st) h :=
  gw_lcmp d1 e1 (gw_if_eq d e9 ht (fun z => kt ((lg_cmp_eq x9 y9).mp z)) (fun z => kf (fun y => z ((lg_cmp_eq x9 y9).mpr y))))
theorem gw_lc_lt {x9 y9 : Int64} {off : Int} {tgt pc1 : Nat} (d1 : decode Y.2.1 pc = .ok (.lcmp, 1)) (e1 : pc + 1 = pc1) (d : decode Y.2.1 pc1 = .ok (.ifCond .lt off, 3)) (e9 : pc1 + 3 = pc') (ht : (pc1 : Int) + off = (tgt : Int)) (kt : x9 < y9 → G Φ Y E x cells slots tgt lv st h) (kf : ¬ x9 < y9 → G Φ Y E x cells slots pc' lv st h) : G Φ Y E x cells slots pc lv (.long y9 :: .long x9 :: st) h :=
  gw_lcmp d1 e1 (gw_if_lt d e9 ht (fun z => kt ((lg_cmp_lt x9 y9).mp z)) (fun z => kf (fun y => z ((lg_cmp_lt x9 y9).mpr y))))
theorem gw_lc_ge {x9 y9 : Int64} {off : Int} {tgt pc1 : Nat} (d1 : decode Y.2.1 pc = .ok (.lcmp, 1)) (e1 : pc + 1 = pc1) (d : decode Y.2.1 pc1 = .ok (.ifCond .ge off, 3)) (e9 : pc1 + 3 = pc') (ht : (pc1 : Int) + off = (tgt : Int)) (kt : y9 ≤ x9 → G Φ Y E x cells slots tgt lv st h) (kf : ¬ y9 ≤ x9 → G Φ Y E x cells slots pc' lv st h) : G Φ Y E x cells slots pc lv (.long y9 :: .long x9 :: st) h :=
  gw_lcmp d1 e1 (gw_if_ge d e9 ht (fun z => kt ((lg_cmp_ge x9 y9).mp z)) (fun z => kf (fun y => z ((lg_cmp_ge x9 y9).mpr y))))
theorem gw_lc_gt {x9 y9 : Int64} {off : Int} {tgt pc1 : Nat} (d1 : decode Y.2.1 pc = .ok (.lcmp, 1)) (e1 : pc + 1 = pc1) (d : decode Y.2.1 pc1 = .ok (.ifCond .gt off, 3)) (e9 : pc1 + 3 = pc') (ht : (pc1 : Int) + off = (tgt : Int)) (kt : y9 < x9 → G Φ Y E x cells slots tgt lv st h) (kf : ¬ y9 < x9 → G Φ Y E x cells slots pc' lv st h) : G Φ Y E x cells slots pc lv (.long y9 :: .long x9 :: st) h :=
  gw_lcmp d1 e1 (gw_if_gt d e9 ht (fun z => kt ((lg_cmp_gt x9 y9).mp z)) (fun z => kf (fun y => z ((lg_cmp_gt x9 y9).mpr y))))
theorem gw_lc_le {x9 y9 : Int64} {off : Int} {tgt pc1 : Nat} (d1 : decode Y.2.1 pc = .ok (.lcmp, 1)) (e1 : pc + 1 = pc1) (d : decode Y.2.1 pc1 = .ok (.ifCond .le off, 3)) (e9 : pc1 + 3 = pc') (ht : (pc1 : Int) + off = (tgt : Int)) (kt : x9 ≤ y9 → G Φ Y E x cells slots tgt lv st h) (kf : ¬ x9 ≤ y9 → G Φ Y E x cells slots pc' lv st h) : G Φ Y E x cells slots pc lv (.long y9 :: .long x9 :: st) h :=
  gw_lcmp d1 e1 (gw_if_le d e9 ht (fun z => kt ((lg_cmp_le x9 y9).mp z)) (fun z => kf (fun y => z ((lg_cmp_le x9 y9).mpr y))))
theorem gw_lc_ne {x9 y9 : Int64} {off : Int} {tgt pc1 : Nat} (d1 : decode Y.2.1 pc = .ok (.lcmp, 1)) (e1 : pc + 1 = pc1) (d : decode Y.2.1 pc1 = .ok (.ifCond .ne off, 3)) (e9 : pc1 + 3 = pc') (ht : (pc1 : Int) + off = (tgt : Int)) (kt : ¬ x9 = y9 → G Φ Y E x cells slots tgt lv st h) (kf : x9 = y9 → G Φ Y E x cells slots pc' lv st h) : G Φ Y E x cells slots pc lv (.long y9 :: .long x9 :: st) h :=
  gw_lcmp d1 e1 (gw_if_ne d e9 ht (fun z => kt (fun y => z ((lg_cmp_eq x9 y9).mpr y))) (fun z => kf ((lg_cmp_eq x9 y9).mp z)))
theorem gw_goto {off : Int} {tgt : Nat} (d : decode Y.2.1 pc = .ok (.goto off, 3)) (ht : (pc : Int) + off = (tgt : Int)) (k : G Φ Y E x cells slots tgt lv st h) : G Φ Y E x cells slots pc lv st h :=
  fun p e s m args below meth c H locs ls F hH hS hl => lv_goto F.1 F.2.1 d ht (k p e s m args below meth c H locs ls F hH hS hl)
theorem gw_ifnull {v : Nat} {off : Int} (d : decode Y.2.1 pc = .ok (.ifnull off, 3)) (e9 : pc + 3 = pc') (k : G Φ Y E x cells slots pc' lv st h) : G Φ Y E x cells slots pc lv (.ref v :: st) h := by
  subst e9
  exact fun p e s m args below meth c H locs ls F hH hS hl => lv_ifnull F.1 F.2.1 d (k p e s m args below meth c H locs ls F hH hS hl)
theorem gw_ifnonnull {v : Nat} {off : Int} {tgt : Nat} (d : decode Y.2.1 pc = .ok (.ifnonnull off, 3)) (ht : (pc : Int) + off = (tgt : Int)) (k : G Φ Y E x cells slots tgt lv st h) : G Φ Y E x cells slots pc lv (.ref v :: st) h :=
  fun p e s m args below meth c H locs ls F hH hS hl => lv_ifnonnull F.1 F.2.1 d ht (k p e s m args below meth c H locs ls F hH hS hl)
theorem gw_tableIn {dflt lo hi : Int} {offs : Array Int} {len : Nat} {x9 : Int32} {off : Int} {tgt : Nat} (d : decode Y.2.1 pc = .ok (.tableswitch dflt lo hi offs, len)) (h1 : ¬ x9.toInt < lo) (h2 : ¬ hi < x9.toInt) (ho : offs[(x9.toInt - lo).toNat]? = some off) (ht : (pc : Int) + off = (tgt : Int)) (k : G Φ Y E x cells slots tgt lv st h) : G Φ Y E x cells slots pc lv (.int x9 :: st) h :=
  fun p e s m args below meth c H locs ls F hH hS hl => lv_tableIn F.1 F.2.1 d h1 h2 ho ht (k p e s m args below meth c H locs ls F hH hS hl)
theorem gw_ldcw {index : Nat} {v : Int32} (d : decode Y.2.1 pc = .ok (.ldc_w index, 3)) (e9 : pc + 3 = pc') (hw : Cond.constant Y.1.cls index v ∈ gw_W) (k : G Φ Y E x cells slots pc' lv (.int v :: st) h) : G Φ Y E x cells slots pc lv st h := by
  subst e9
  exact fun p e s m args below meth c H locs ls F hH hS hl => lv_ldcw F.1 F.2.1 F.2.2.2.2.2.1 (F.2.2.2.2.2.2.2.2.1 _ hw) d (k p e s m args below meth c H locs ls F hH hS hl)
theorem gw_ldc2 {index : Nat} {v : Int64} (d : decode Y.2.1 pc = .ok (.ldc2_w index, 3)) (e9 : pc + 3 = pc') (hw : Cond.constantLong Y.1.cls index v ∈ gw_W) (k : G Φ Y E x cells slots pc' lv (.long v :: st) h) : G Φ Y E x cells slots pc lv st h := by
  subst e9
  exact fun p e s m args below meth c H locs ls F hH hS hl => lv_ldc2 F.1 F.2.1 F.2.2.2.2.2.1 (F.2.2.2.2.2.2.2.2.1 _ hw) d (k p e s m args below meth c H locs ls F hH hS hl)
theorem gw_ldc2d {index : Nat} {v : UInt64} (d : decode Y.2.1 pc = .ok (.ldc2_w index, 3)) (e9 : pc + 3 = pc') (hw : Cond.constantDouble Y.1.cls index v ∈ gw_W) (k : G Φ Y E x cells slots pc' lv (.double v :: st) h) : G Φ Y E x cells slots pc lv st h := by
  subst e9
  exact fun p e s m args below meth c H locs ls F hH hS hl => lv_ldc2d F.1 F.2.1 F.2.2.2.2.2.1 (F.2.2.2.2.2.2.2.2.1 _ hw) d (k p e s m args below meth c H locs ls F hH hS hl)
/-- a class of the tables -/
def gw_Cl (ci : Nat) (C : String) (T : u_T) (N : Nat) (ty : Nat → FieldType) : Prop := vwCl[ci]? = some (C, T, N) ∧ (∀ w ∈ u_ws C T N, w ∈ gw_W) ∧ (∀ k, k < N → parseFieldDescriptor (T k).2.2.1 = some (ty k)) ∧ ∀ a, a < N → ∀ b, b < N → a ≠ b → (T a).2.1 ≠ (T b).2.1
section Fields
variable {ci N : Nat} {C : String} {T : u_T} {ty : Nat → FieldType} {a : Nat} {fs : List Value} {index : Nat} {host : String}
theorem gw_get (cl : gw_Cl ci C T N ty) (k0 : Nat) (d : decode Y.2.1 pc = .ok (.getfield index, 3)) (e9 : pc + 3 = pc') (hl0 : Cond.fieldLink Y.1.cls index (T k0).1 (T k0).2.1 (T k0).2.2.1 ∈ gw_W) (hk : k0 < N) (hh : h a = some (.inr (ci, fs))) {v : Value} (hv : fs[k0]? = some v) (k : G Φ Y E x cells slots pc' lv (v :: st) h) : G Φ Y E x cells slots pc lv (.ref a :: st) h := by
  subst e9
  exact fun p e s m args below meth c H locs ls F hH hS hl => va_get (D := Φ.2.2.1) F.1 F.2.1 F.2.2.2.2.2.2.2.2.1 cl.2.1 F.2.2.2.2.2.1 F.2.2.2.2.2.2.2.2.2.1.1 (hH.one hh) 0 rfl cl.1 k0 hk (F.2.2.2.2.2.2.2.2.1 _ hl0) (fun _ z => z) hv d (k p e s m args below meth c H locs ls F hH hS hl)
theorem gw_getN (cl : gw_Cl ci C T N ty) (k0 : Nat) (d : decode Y.2.1 pc = .ok (.getfield index, 3)) (e9 : pc + 3 = pc') (hl0 : Cond.fieldLinkNest Y.1.cls index (T k0).1 (T k0).2.1 (T k0).2.2.1 host ∈ gw_NW) (hk : k0 < N) (hh : h a = some (.inr (ci, fs))) {v : Value} (hv : fs[k0]? = some v) (k : G Φ Y E x cells slots pc' lv (v :: st) h) : G Φ Y E x cells slots pc lv (.ref a :: st) h := by
  subst e9
  exact fun p e s m args below meth c H locs ls F hH hS hl => va_getN (D := Φ.2.2.1) F.1 F.2.1 F.2.2.2.2.2.2.2.2.1 cl.2.1 F.2.2.2.2.2.1 F.2.2.2.2.2.2.2.2.2.1.1 (hH.one hh) 0 rfl cl.1 k0 hk (va_Nw.use rfl (F.2.2.2.2.2.2.2.2.2.1.2.2.2.2.2.2.2 _ hl0)) (fun _ z => z) hv d (k p e s m args below meth c H locs ls F hH hS hl)
theorem gw_put (cl : gw_Cl ci C T N ty) (k0 : Nat) (d : decode Y.2.1 pc = .ok (.putfield index, 3)) (e9 : pc + 3 = pc') (hl0 : Cond.fieldLink Y.1.cls index (T k0).1 (T k0).2.1 (T k0).2.2.1 ∈ gw_W) (hk : k0 < N) (hfin : (T k0).2.2.2 = false) (hh : h a = some (.inr (ci, fs))) {v : Value} (hn : narrow (ty k0) v = v) (hfit : fits (ty k0) v = true) (hlen : k0 < fs.length) (k : G Φ Y E x cells slots pc' lv st (gw_up h a (.inr (ci, fs.set k0 v)))) : G Φ Y E x cells slots pc lv (v :: .ref a :: st) h := by
  subst e9
  intro p e s m args below meth c H locs ls F hH hS hl
  obtain ⟨ws, h1, h2, h3⟩ := hH
  obtain ⟨j, hj⟩ := List.getElem?_of_mem (h1 a _ hh)
  refine va_put (D := Φ.2.2.1) F.1 F.2.1 F.2.2.2.2.2.2.2.2.1 cl.2.1 ty cl.2.2.1 cl.2.2.2 F.2.2.2.2.2.1 F.2.2.2.2.2.2.2.2.2.1.1 h2 h3 hS j hj cl.1 k0 hk (F.2.2.2.2.2.2.2.2.1 _ hl0) (fun _ z => z) hfin (cl.2.2.1 k0 hk) hn hfit hlen d (fun H1 locs1 hP hD hS => ?_)
  exact k p e s m args below meth c H1 locs1 ls F (gw_H.sup h3 h1 hj hP hD) hS hl
theorem gw_putN (cl : gw_Cl ci C T N ty) (k0 : Nat) (d : decode Y.2.1 pc = .ok (.putfield index, 3)) (e9 : pc + 3 = pc') (hl0 : Cond.fieldLinkNest Y.1.cls index (T k0).1 (T k0).2.1 (T k0).2.2.1 host ∈ gw_NW) (hk : k0 < N) (hfin : (T k0).2.2.2 = false) (hh : h a = some (.inr (ci, fs))) {v : Value} (hn : narrow (ty k0) v = v) (hfit : fits (ty k0) v = true) (hlen : k0 < fs.length) (k : G Φ Y E x cells slots pc' lv st (gw_up h a (.inr (ci, fs.set k0 v)))) : G Φ Y E x cells slots pc lv (v :: .ref a :: st) h := by
  subst e9
  intro p e s m args below meth c H locs ls F hH hS hl
  obtain ⟨ws, h1, h2, h3⟩ := hH
  obtain ⟨j, hj⟩ := List.getElem?_of_mem (h1 a _ hh)
  refine va_putN (D := Φ.2.2.1) F.1 F.2.1 F.2.2.2.2.2.2.2.2.1 cl.2.1 ty cl.2.2.1 cl.2.2.2 F.2.2.2.2.2.1 F.2.2.2.2.2.2.2.2.2.1.1 h2 h3 hS j hj cl.1 k0 hk (va_Nw.use rfl (F.2.2.2.2.2.2.2.2.2.1.2.2.2.2.2.2.2 _ hl0)) (fun _ z => z) hfin (cl.2.2.1 k0 hk) hn hfit hlen d (fun H1 locs1 hP hD hS => ?_)
  exact k p e s m args below meth c H1 locs1 ls F (gw_H.sup h3 h1 hj hP hD) hS hl
theorem gw_putF (cl : gw_Cl ci C T N ty) (k0 : Nat) (d : decode Y.2.1 pc = .ok (.putfield index, 3)) (e9 : pc + 3 = pc') (hl0 : Cond.fieldLink Y.1.cls index (T k0).1 (T k0).2.1 (T k0).2.2.1 ∈ gw_W) (hk : k0 < N) (hfin : (T k0).2.2.2 = true) (hini : Y.1.name = "<init>") (hdecl : (T k0).1 = Y.1.cls) (hh : h a = some (.inr (ci, fs))) {v : Value} (hn : narrow (ty k0) v = v) (hfit : fits (ty k0) v = true) (hlen : k0 < fs.length) (k : G Φ Y E x cells slots pc' lv st (gw_up h a (.inr (ci, fs.set k0 v)))) : G Φ Y E x cells slots pc lv (v :: .ref a :: st) h := by
  subst e9
  intro p e s m args below meth c H locs ls F hH hS hl
  obtain ⟨ws, h1, h2, h3⟩ := hH
  obtain ⟨j, hj⟩ := List.getElem?_of_mem (h1 a _ hh)
  refine va_putF (D := Φ.2.2.1) F.1 F.2.1 F.2.2.2.2.2.2.2.2.1 cl.2.1 ty cl.2.2.1 cl.2.2.2 F.2.2.2.2.2.1 F.2.2.2.2.2.2.2.2.2.1.1 h2 h3 hS j hj cl.1 k0 hk (F.2.2.2.2.2.2.2.2.1 _ hl0) (fun _ z => z) hfin (F.2.2.2.2.2.2.1.trans hini) hdecl (cl.2.2.1 k0 hk) hn hfit hlen d (fun H1 locs1 hP hD hS => ?_)
  exact k p e s m args below meth c H1 locs1 ls F (gw_H.sup h3 h1 hj hP hD) hS hl
end Fields
section Arrays
variable {a n : Nat}
theorem gw_iald {f : Nat → Int32} {i : Int32} (d : decode Y.2.1 pc = .ok (.iaload, 1)) (e9 : pc + 1 = pc') (hh : h a = some (gwI Φ n f)) (hin : vp_in i n) (k : G Φ Y E x cells slots pc' lv (.int (f i.toNatClampNeg) :: st) h) : G Φ Y E x cells slots pc lv (.int i :: .ref a :: st) h := by
  subst e9
  exact fun p e s m args below meth c H locs ls F hH hS hl => va_iald (D := Φ.2.2.1) F.1 F.2.1 F.2.2.2.2.2.2.2.2.2.1.1 (hH.one hh) 0 0 rfl rfl hin d (k p e s m args below meth c H locs ls F hH hS hl)
theorem gw_lald {f : Nat → Int64} {i : Int32} (d : decode Y.2.1 pc = .ok (.laload, 1)) (e9 : pc + 1 = pc') (hh : h a = some (gwL Φ n f)) (hin : vp_in i n) (k : G Φ Y E x cells slots pc' lv (.long (f i.toNatClampNeg) :: st) h) : G Φ Y E x cells slots pc lv (.int i :: .ref a :: st) h := by
  subst e9
  exact fun p e s m args below meth c H locs ls F hH hS hl => va_lald (D := Φ.2.2.1) F.1 F.2.1 F.2.2.2.2.2.2.2.2.2.1.1 (hH.one hh) 0 1 rfl rfl hin d (k p e s m args below meth c H locs ls F hH hS hl)
theorem gw_aald {f : Nat → Option Nat} {i : Int32} (d : decode Y.2.1 pc = .ok (.aaload, 1)) (e9 : pc + 1 = pc') (hh : h a = some (gwR Φ n f)) (hin : vp_in i n) (k : G Φ Y E x cells slots pc' lv (va_rf (f i.toNatClampNeg) :: st) h) : G Φ Y E x cells slots pc lv (.int i :: .ref a :: st) h := by
  subst e9
  exact fun p e s m args below meth c H locs ls F hH hS hl => va_aldq (D := Φ.2.2.1) F.1 F.2.1 F.2.2.2.2.2.2.2.2.2.1.1 (hH.one hh) 0 2 rfl rfl hin d (k p e s m args below meth c H locs ls F hH hS hl)
theorem gw_alen {f : (Nat → Int32) ⊕ (Nat → Int64) ⊕ (Nat → UInt32) ⊕ (Nat → UInt64) ⊕ (Nat → Option Nat)} {cA : ClassId} {v : Int32} (t0 : Nat) {ty : FieldType} (ht : (gw_ty Φ)[t0]? = some (cA, ty)) (d : decode Y.2.1 pc = .ok (.arraylength, 1)) (e9 : pc + 1 = pc') (hh : h a = some (.inl (cA, n, f))) (hv : Int32.ofNat n = v) (k : G Φ Y E x cells slots pc' lv (.int v :: st) h) : G Φ Y E x cells slots pc lv (.ref a :: st) h := by
  subst e9
  exact fun p e s m args below meth c H locs ls F hH hS hl => va_alen (D := Φ.2.2.1) F.1 F.2.1 F.2.2.2.2.2.2.2.2.2.1.1 (hH.one hh) 0 t0 rfl ht hv d (k p e s m args below meth c H locs ls F hH hS hl)
theorem gw_iast {f : Nat → Int32} {i v : Int32} (d : decode Y.2.1 pc = .ok (.iastore, 1)) (e9 : pc + 1 = pc') (hh : h a = some (gwI Φ n f)) (hin : vp_in i n) (k : G Φ Y E x cells slots pc' lv st (gw_up h a (gwI Φ n (upd f i.toNatClampNeg v)))) : G Φ Y E x cells slots pc lv (.int v :: .int i :: .ref a :: st) h := by
  subst e9
  intro p e s m args below meth c H locs ls F hH hS hl
  obtain ⟨ws, h1, h2, h3⟩ := hH
  obtain ⟨j, hj⟩ := List.getElem?_of_mem (h1 a _ hh)
  exact va_iast (D := Φ.2.2.1) F.1 F.2.1 F.2.2.2.2.2.2.2.2.2.1.1 h2 h3 hS j 0 hj rfl hin d (fun H1 locs1 hP hD hS => k p e s m args below meth c H1 locs1 ls F (gw_H.sup h3 h1 hj hP hD) hS hl)
theorem gw_last {f : Nat → Int64} {i : Int32} {v : Int64} (d : decode Y.2.1 pc = .ok (.lastore, 1)) (e9 : pc + 1 = pc') (hh : h a = some (gwL Φ n f)) (hin : vp_in i n) (k : G Φ Y E x cells slots pc' lv st (gw_up h a (gwL Φ n (vp_updL f i.toNatClampNeg v)))) : G Φ Y E x cells slots pc lv (.long v :: .int i :: .ref a :: st) h := by
  subst e9
  intro p e s m args below meth c H locs ls F hH hS hl
  obtain ⟨ws, h1, h2, h3⟩ := hH
  obtain ⟨j, hj⟩ := List.getElem?_of_mem (h1 a _ hh)
  exact va_last (D := Φ.2.2.1) F.1 F.2.1 F.2.2.2.2.2.2.2.2.2.1.1 h2 h3 hS j 1 hj rfl hin d (fun H1 locs1 hP hD hS => k p e s m args below meth c H1 locs1 ls F (gw_H.sup h3 h1 hj hP hD) hS hl)
theorem gw_aast {f : Nat → Option Nat} {i : Int32} {v : Nat} {vs : List Value} (d : decode Y.2.1 pc = .ok (.aastore, 1)) (e9 : pc + 1 = pc') (hh : h a = some (gwR Φ n f)) (hhv : h v = some (.inr (4, vs))) (hin : vp_in i n) (k : G Φ Y E x cells slots pc' lv st (gw_up h a (gwR Φ n (va_up f i.toNatClampNeg (some v))))) : G Φ Y E x cells slots pc lv (.ref v :: .int i :: .ref a :: st) h := by
  subst e9
  intro p e s m args below meth c H locs ls F hH hS hl
  obtain ⟨ws, h1, h2, h3⟩ := hH
  obtain ⟨j, hj⟩ := List.getElem?_of_mem (h1 a _ hh)
  obtain ⟨j2, hj2⟩ := List.getElem?_of_mem (h1 v _ hhv)
  exact va_astq (D := Φ.2.2.1) (r := (RX4, TX4, 6)) F.1 F.2.1 F.2.2.2.2.2.2.2.2.2.1.1 h2 h3 hS j 2 j2 4 hj rfl hj2 rfl hin d (fun H1 locs1 hP hD hS => k p e s m args below meth c H1 locs1 ls F (gw_H.sup h3 h1 hj hP hD) hS hl)
/-- System.arraycopy over rows of longs -/
theorem gw_copyl {a0 n0 index : Nat} {f g : Nat → Int64} {sp dp cnt : Int32} (d : decode Y.2.1 pc = .ok (.invokestatic index, 3)) (e9 : pc + 3 = pc') (hl0 : Cond.methodLink Y.1.cls index arraycopyName ∈ gw_W) (hnat : Cond.native arraycopyName ∈ gw_W) (hstt : Cond.static arraycopyName ∈ gw_W) (hini : Cond.initialized "java/lang/System" ∈ gw_W)
    (hh0 : h a0 = some (gwL Φ n0 f)) (hh : h a = some (gwL Φ n g)) (h1 : ¬ sp < 0) (h2 : ¬ dp < 0) (h3 : ¬ cnt < 0) (h4 : sp.toNatClampNeg + cnt.toNatClampNeg ≤ n0) (h5 : dp.toNatClampNeg + cnt.toNatClampNeg ≤ n) (hfr : 1 ≤ Y.2.2.2.2.1.frames) (hlo : (st.map fun v => v.category).sum + (nativeFrameWords "java/lang/System" "arraycopy" 5 + 11) ≤ Y.2.2.2.2.1.locals)
    (k : G Φ Y E x cells slots pc' lv st (gw_up h a (gwL Φ n (va_cpy f g sp.toNatClampNeg dp.toNatClampNeg cnt.toNatClampNeg)))) : G Φ Y E x cells slots pc lv (.int cnt :: .int dp :: .ref a :: .int sp :: .ref a0 :: st) h := by
  subst e9
  intro p e s m args below meth c H locs ls F hH hS hl
  obtain ⟨ws, g1, g2, g3⟩ := hH
  obtain ⟨j, hj⟩ := List.getElem?_of_mem (g1 a _ hh)
  obtain ⟨j0, hj0⟩ := List.getElem?_of_mem (g1 a0 _ hh0)
  have hw := F.2.2.2.2.2.2.2.2.1
  exact va_copyl (D := Φ.2.2.1) F.1 F.2.1 (F.2.2.1.trans hl.1.symm) F.2.2.2.2.2.1 (hw _ hl0) (hw _ hnat) (hw _ hstt) (hw _ hini) F.2.2.2.2.2.2.2.2.2.1.1 g2 g3 hS j0 j 1 1 hj0 hj rfl rfl rfl h1 h2 h3 h4 h5 (fun _ _ => rfl) hfr hlo d (fun H1 locs1 hP hD hS => k p e s m args below meth c H1 locs1 ls F (gw_H.sup g3 g1 hj hP hD) hS hl)
end Arrays
section Maths
theorem gw_mabs {index : Nat} {v : Int32} (d : decode Y.2.1 pc = .ok (.invokestatic index, 3)) (e9 : pc + 3 = pc') (hl0 : Cond.methodLink Y.1.cls index Lib.Math.abs.name ∈ gw_W) (hstt : Cond.static Lib.Math.abs.name ∈ gw_W) (hini : Cond.initialized "java/lang/Math" ∈ gw_W) (hco : Cond.code Lib.Math.abs.name Lib.Math.abs.code 1 (some .int) ∈ gw_W) (hfr : 1 ≤ Y.2.2.2.2.1.frames) (hlo : (st.map fun v => v.category).sum + 13 ≤ Y.2.2.2.2.1.locals) (hc : cells ≤ Y.2.2.2.2.1.cells) (hs : slots ≤ Y.2.2.2.2.1.slots) (k : G Φ Y E x cells slots pc' lv (.int (if 0 ≤ v then v else 0 - v) :: st) h) : G Φ Y E x cells slots pc lv (.int v :: st) h := by
  subst e9
  exact fun p e s m args below meth c H locs ls F hH hS hl => va_mabs F.1 F.2.1 (F.2.2.1.trans hl.1.symm) F.2.2.2.2.2.1 (F.2.2.2.2.2.2.2.2.1 _ hl0) (F.2.2.2.2.2.2.2.2.1 _ hstt) (F.2.2.2.2.2.2.2.2.1 _ hini) (F.2.2.2.2.2.2.2.2.1 _ hco) hfr hlo hc hs d (k p e s m args below meth c H locs ls F hH hS hl)
theorem gw_mmax {index : Nat} {v w : Int32} (d : decode Y.2.1 pc = .ok (.invokestatic index, 3)) (e9 : pc + 3 = pc') (hl0 : Cond.methodLink Y.1.cls index Lib.Math.max.name ∈ gw_W) (hstt : Cond.static Lib.Math.max.name ∈ gw_W) (hini : Cond.initialized "java/lang/Math" ∈ gw_W) (hco : Cond.code Lib.Math.max.name Lib.Math.max.code 2 (some .int) ∈ gw_W) (hfr : 1 ≤ Y.2.2.2.2.1.frames) (hlo : (st.map fun v => v.category).sum + 13 ≤ Y.2.2.2.2.1.locals) (hc : cells ≤ Y.2.2.2.2.1.cells) (hs : slots ≤ Y.2.2.2.2.1.slots) (k : G Φ Y E x cells slots pc' lv (.int (if v < w then w else v) :: st) h) : G Φ Y E x cells slots pc lv (.int w :: .int v :: st) h := by
  subst e9
  exact fun p e s m args below meth c H locs ls F hH hS hl => va_mmax F.1 F.2.1 (F.2.2.1.trans hl.1.symm) F.2.2.2.2.2.1 (F.2.2.2.2.2.2.2.2.1 _ hl0) (F.2.2.2.2.2.2.2.2.1 _ hstt) (F.2.2.2.2.2.2.2.2.1 _ hini) (F.2.2.2.2.2.2.2.2.1 _ hco) hfr hlo hc hs d (k p e s m args below meth c H locs ls F hH hS hl)
theorem gw_mmin {index : Nat} {v w : Int32} (d : decode Y.2.1 pc = .ok (.invokestatic index, 3)) (e9 : pc + 3 = pc') (hl0 : Cond.methodLink Y.1.cls index Lib.Math.min.name ∈ gw_W) (hstt : Cond.static Lib.Math.min.name ∈ gw_W) (hini : Cond.initialized "java/lang/Math" ∈ gw_W) (hco : Cond.code Lib.Math.min.name Lib.Math.min.code 2 (some .int) ∈ gw_W) (hfr : 1 ≤ Y.2.2.2.2.1.frames) (hlo : (st.map fun v => v.category).sum + 13 ≤ Y.2.2.2.2.1.locals) (hc : cells ≤ Y.2.2.2.2.1.cells) (hs : slots ≤ Y.2.2.2.2.1.slots) (k : G Φ Y E x cells slots pc' lv (.int (if w < v then w else v) :: st) h) : G Φ Y E x cells slots pc lv (.int w :: .int v :: st) h := by
  subst e9
  exact fun p e s m args below meth c H locs ls F hH hS hl => va_mmin F.1 F.2.1 (F.2.2.1.trans hl.1.symm) F.2.2.2.2.2.1 (F.2.2.2.2.2.2.2.2.1 _ hl0) (F.2.2.2.2.2.2.2.2.1 _ hstt) (F.2.2.2.2.2.2.2.2.1 _ hini) (F.2.2.2.2.2.2.2.2.1 _ hco) hfr hlo hc hs d (k p e s m args below meth c H locs ls F hH hS hl)
theorem gw_mminl {index : Nat} {v w : Int64} (d : decode Y.2.1 pc = .ok (.invokestatic index, 3)) (e9 : pc + 3 = pc') (hl0 : Cond.methodLink Y.1.cls index Lib.MathLoose.min_long.x ∈ gw_W) (hstt : Cond.static Lib.MathLoose.min_long.x ∈ gw_W) (hini : Cond.initialized "java/lang/Math" ∈ gw_W) (hco : Cond.code Lib.MathLoose.min_long.x Lib.MathLoose.min_long.code 4 (some .long) ∈ gw_W) (hfr : 1 ≤ Y.2.2.2.2.1.frames) (hlo : (st.map fun v => v.category).sum + 15 ≤ Y.2.2.2.2.1.locals) (hc : cells ≤ Y.2.2.2.2.1.cells) (hs : slots ≤ Y.2.2.2.2.1.slots) (k : G Φ Y E x cells slots pc' lv (.long (if w < v then w else v) :: st) h) : G Φ Y E x cells slots pc lv (.long w :: .long v :: st) h := by
  subst e9
  exact fun p e s m args below meth c H locs ls F hH hS hl => va_mmin_long F.1 F.2.1 (F.2.2.1.trans hl.1.symm) F.2.2.2.2.2.1 (F.2.2.2.2.2.2.2.2.1 _ hl0) (F.2.2.2.2.2.2.2.2.1 _ hstt) (F.2.2.2.2.2.2.2.2.1 _ hini) (F.2.2.2.2.2.2.2.2.1 _ hco) hfr hlo hc hs d (k p e s m args below meth c H locs ls F hH hS hl)
theorem gw_mabsl {index : Nat} {v : Int64} (d : decode Y.2.1 pc = .ok (.invokestatic index, 3)) (e9 : pc + 3 = pc') (hl0 : Cond.methodLink Y.1.cls index Lib.MathLoose.abs_long.x ∈ gw_W) (hstt : Cond.static Lib.MathLoose.abs_long.x ∈ gw_W) (hini : Cond.initialized "java/lang/Math" ∈ gw_W) (hco : Cond.code Lib.MathLoose.abs_long.x Lib.MathLoose.abs_long.code 2 (some .long) ∈ gw_W) (hfr : 1 ≤ Y.2.2.2.2.1.frames) (hlo : (st.map fun v => v.category).sum + 13 ≤ Y.2.2.2.2.1.locals) (hc : cells ≤ Y.2.2.2.2.1.cells) (hs : slots ≤ Y.2.2.2.2.1.slots) (k : G Φ Y E x cells slots pc' lv (.long (if 0 < v then v else -v) :: st) h) : G Φ Y E x cells slots pc lv (.long v :: st) h := by
  subst e9
  exact fun p e s m args below meth c H locs ls F hH hS hl => va_mabs_long F.1 F.2.1 (F.2.2.1.trans hl.1.symm) F.2.2.2.2.2.1 (F.2.2.2.2.2.2.2.2.1 _ hl0) (F.2.2.2.2.2.2.2.2.1 _ hstt) (F.2.2.2.2.2.2.2.2.1 _ hini) (F.2.2.2.2.2.2.2.2.1 _ hco) hfr hlo hc hs d (k p e s m args below meth c H locs ls F hH hS hl)
end Maths
end GR
end GW
