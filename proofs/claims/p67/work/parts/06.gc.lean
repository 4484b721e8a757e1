section GC
abbrev gw_ws (Y : gwY) : List Cond := Cond.code Y.1 Y.2.1 Y.2.2.1 Y.2.2.2.1 :: gw_W
abbrev gw_wsX (Y : gwY) : List Cond := Cond.codeWith Y.1 Y.2.1 Y.2.2.1 Y.2.2.2.1 Y.2.2.2.2.2 :: gw_W
abbrev gwRm (Y : gwY) : Room := Y.2.2.2.2.1
/-- what the tables say of a method -/
def gw_ok (Y : gwY) (n : Nat) : Prop := plainName Y.1.cls = true ∧ (Cond.code Y.1 Y.2.1 Y.2.2.1 Y.2.2.2.1 ∈ gw_W) ∧ (Cond.initialized Y.1.cls ∈ gw_W) ∧ (Y.1.cls ≠ "java/lang/invoke/MethodHandle" ∧ Y.1.cls ≠ "java/lang/invoke/VarHandle" ∧ (parseMethodDescriptor Y.1.desc).map (fun d => d.parameters.length) = some n) ∧ Y.2.2.2.2.2 = []
def gw_okX (Y : gwY) (n : Nat) : Prop := plainName Y.1.cls = true ∧ (Cond.codeWith Y.1 Y.2.1 Y.2.2.1 Y.2.2.2.1 Y.2.2.2.2.2 ∈ gw_W) ∧ (Cond.initialized Y.1.cls ∈ gw_W) ∧ (Y.1.cls ≠ "java/lang/invoke/MethodHandle" ∧ Y.1.cls ≠ "java/lang/invoke/VarHandle" ∧ (parseMethodDescriptor Y.1.desc).map (fun d => d.parameters.length) = some n)
def gw_P (Φ : gwC) (x : Option Nat) (args : List Value) (h : gwHp) : Array Value → State → Prop := va_Pc args (fun U => gw_E Φ U ∧ gw_H Φ h U.heap ∧ ∀ N, x = some N → U.heap.size = N)
def gw_Q (Φ : gwC) (K : Option Value → gwHp → Prop) : Array Value → State → Outcome → State → Prop := fun _ st o t => (∃ v h, o = .returned v ∧ K v h ∧ gw_H Φ h t.heap) ∧ va_F (gw_A Φ.2.1) st t
def gw_X (Φ : gwC) (KX : String → gwHp → Prop) : String → State → State → Prop := fun X st t => (∃ h, KX X h ∧ gw_H Φ h t.heap) ∧ va_F (gw_A Φ.2.1) st t
/-- a method's contract: it returns -/
def gw_Con (Φ : gwC) (Y : gwY) (x : Option Nat) (args : List Value) (h : gwHp) (K : Option Value → gwHp → Prop) : Prop := Met Φ.1 Y.1 (gw_ws Y) (gwRm Y) (gw_P Φ x args h) (gw_Q Φ K) (gwRm Y).cells (gwRm Y).slots (gw_A Φ.2.1)
/-- .. it returns or throws -/
def gw_ConX (Φ : gwC) (Y : gwY) (args : List Value) (h : gwHp) (K : Option Value → gwHp → Prop) (KX : String → gwHp → Prop) : Prop := vx_Met Φ.1 Y.1 (gw_ws Y) (gwRm Y) (gw_P Φ none args h) (gw_Q Φ K) (gw_X Φ KX) (gwRm Y).cells (gwRm Y).slots (gw_A Φ.2.1)
/-- .. with a table of its own -/
def gw_ConH (Φ : gwC) (Y : gwY) (args : List Value) (h : gwHp) (K : Option Value → gwHp → Prop) (KX : String → gwHp → Prop) : Prop := vx_Met Φ.1 Y.1 (gw_wsX Y) (gwRm Y) (gw_P Φ none args h) (gw_Q Φ K) (gw_X Φ KX) (gwRm Y).cells (gwRm Y).slots (gw_A Φ.2.1)
def gw_M (Φ : gwC) (Y : gwY) (K : Option Value → gwHp → Prop) : gwE := fun below args s => MQ below (gw_Q Φ K) args s (gwRm Y).cells (gwRm Y).slots (gw_A Φ.2.1)
def gw_MX (Φ : gwC) (Y : gwY) (K : Option Value → gwHp → Prop) (KX : String → gwHp → Prop) : gwE := fun below args s => vx_MQ below (gw_Q Φ K) (gw_X Φ KX) args s (gwRm Y).cells (gwRm Y).slots (gw_A Φ.2.1)
theorem gw_good {ws : List Cond} (h : ∀ w ∈ ws, w ∈ gw_W) : GoodIn gw_W ws := fun w hw => ⟨h w hw, good_of_word (List.mem_filter.mp (h w hw)).2⟩
theorem gw_cons {w : Cond} {ws : List Cond} (h : w ∈ gw_W) (t : ∀ w ∈ ws, w ∈ gw_W) : ∀ v ∈ w :: ws, v ∈ gw_W := fun v hv => (List.mem_cons.mp hv).elim (fun e => by rw [e]; exact h) (t v)
theorem gw_blind {Φ : gwC} {x : Option Nat} {args : List Value} {h : gwHp} : FrameBlind (gw_P Φ x args h) := fun a U g mk q => by
  obtain ⟨q0, q1, q2, q3⟩ := q
  exact ⟨q0, q1.moved (locs := []) (H := U.heap) va_S.rf rfl (Vm.Alike.refl U.vm) (State.WarmedH.refl U), q2, q3⟩
section Starts
variable {Φ : gwC} {Y : gwY} {x : Option Nat} {args : List Value} {h : gwHp} {K : Option Value → gwHp → Prop} {KX : String → gwHp → Prop} {n : Nat}
theorem gw_start (ok : gw_ok Y n) (hn : (lg_sl args).length ≤ Y.2.2.1) (k : G Φ Y (gw_M Φ Y K) x 0 0 0 (lv_args 0 args) [] h) : gw_Con Φ Y x args h K := by
  refine Met.ofW (cc := Y.2.1) (maxL := Y.2.2.1) (ret := Y.2.2.2.1) ok.1 rfl ?_
  intro p e s m args' below meth c s₁ B hml hv
  obtain ⟨rfl, hE, hH, hx⟩ := hv
  have hl := lv_entry args (n := Y.2.2.1) hn
  rw [lg_entry_eq]
  refine k p e s m _ below meth c s.heap [] _ ⟨B.exec, B.bytes, hml, B.returns, B.notSynchronized, findClass_of_methodNamed B.named, (name_of_methodNamed B.named B.method).1, ?_, fun w hw => atoms_spec (ws := gw_ws Y) B.pre w (List.mem_cons_of_mem _ hw), hE, hx⟩ hH va_S.rf hl
  obtain ⟨meth9, c9, h1, h2, -, -, -, -, h7, -⟩ := Cond.code_spec B.named (atoms_spec (ws := gw_ws Y) B.pre _ List.mem_cons_self)
  cases Option.some.inj (h1.symm.trans B.method)
  cases Option.some.inj (h2.symm.trans (Stand.of_body B).code)
  rw [ok.2.2.2.2, Array.isEmpty_iff.mp h7]
  rfl
theorem gw_startX (ok : gw_ok Y n) (hn : (lg_sl args).length ≤ Y.2.2.1) (k : G Φ Y (gw_MX Φ Y K KX) none 0 0 0 (lv_args 0 args) [] h) : gw_ConX Φ Y args h K KX := by
  refine vx_ofW (cc := Y.2.1) (maxL := Y.2.2.1) (ret := Y.2.2.2.1) ok.1 rfl ?_
  intro p e s m args' below meth c s₁ B hml ht hv
  obtain ⟨rfl, hE, hH, hx⟩ := hv
  have hl := lv_entry args (n := Y.2.2.1) hn
  rw [lg_entry_eq]
  refine k p e s m _ below meth c s.heap [] _ ⟨B.exec, B.bytes, hml, B.returns, B.notSynchronized, findClass_of_methodNamed B.named, (name_of_methodNamed B.named B.method).1, ?_, fun w hw => atoms_spec (ws := gw_ws Y) B.pre w (List.mem_cons_of_mem _ hw), hE, hx⟩ hH va_S.rf hl
  rw [ok.2.2.2.2]
  cases hc : c.exceptionTable.toList with
  | nil => rfl
  | cons y ys => exact (ht y (by rw [hc]; exact List.mem_cons_self)).elim
theorem gw_startH (ok : gw_okX Y n) (hn : (lg_sl args).length ≤ Y.2.2.1) (k : G Φ Y (gw_MX Φ Y K KX) none 0 0 0 (lv_args 0 args) [] h) : gw_ConH Φ Y args h K KX := by
  refine vx_ofWH (cc := Y.2.1) (maxL := Y.2.2.1) (ret := Y.2.2.2.1) (hh := Y.2.2.2.2.2) ok.1 rfl ?_
  intro p e s m args' below meth c s₁ B hml hv
  obtain ⟨rfl, hE, hH, hx⟩ := hv
  have hl := lv_entry args (n := Y.2.2.1) hn
  rw [lg_entry_eq]
  exact k p e s m _ below meth c s.heap [] _ ⟨B.exec, B.bytes, hml, B.returns, B.notSynchronized, findClass_of_methodNamed B.named, (name_of_methodNamed B.named B.method).1, vx_table (x := Y.1) B (atoms_spec (ws := gw_wsX Y) B.pre _ List.mem_cons_self), fun w hw => atoms_spec (ws := gw_wsX Y) B.pre w (List.mem_cons_of_mem _ hw), hE, hx⟩ hH va_S.rf hl
end Starts
section Ends
variable {Φ : gwC} {Y : gwY} {x : Option Nat} {cells slots pc pc' : Nat} {lv : List (Nat × Value)} {st : List Value} {h : gwHp} {K : Option Value → gwHp → Prop} {KX : String → gwHp → Prop}
theorem gw_iret {v : Int32}  (d : decode Y.2.1 pc = .ok (.ireturn, 1)) (hr : Y.2.2.2.1 = some .int) (hc : cells ≤ (gwRm Y).cells) (hs : slots ≤ (gwRm Y).slots) (k : K (some (.int v)) h) : G Φ Y (gw_M Φ Y K) x cells slots pc lv [.int v] h := by
  intro p e s m args below meth c H locs ls F hH hS hl
  refine W.widen hc hs ?_
  exact W.iret F.1 F.2.1 (F.2.2.2.1.trans hr) (fun t ht hW => ⟨⟨_, h, rfl, k, by rw [ht]; exact hH⟩, hS.F ht⟩) hS.2.2 d F.2.2.2.2.1
theorem gw_iretX {v : Int32}  (d : decode Y.2.1 pc = .ok (.ireturn, 1)) (hr : Y.2.2.2.1 = some .int) (hc : cells ≤ (gwRm Y).cells) (hs : slots ≤ (gwRm Y).slots) (k : K (some (.int v)) h) : G Φ Y (gw_MX Φ Y K KX) x cells slots pc lv [.int v] h := by
  intro p e s m args below meth c H locs ls F hH hS hl
  refine W.widen hc hs ?_
  refine vx_ret ?_
  exact W.iret F.1 F.2.1 (F.2.2.2.1.trans hr) (fun t ht hW => ⟨⟨_, h, rfl, k, by rw [ht]; exact hH⟩, hS.F ht⟩) hS.2.2 d F.2.2.2.2.1
theorem gw_zret {v : Int32} {ty : FieldType} (hnar : narrow ty (.int v) = .int v) (d : decode Y.2.1 pc = .ok (.ireturn, 1)) (hr : Y.2.2.2.1 = some ty) (hc : cells ≤ (gwRm Y).cells) (hs : slots ≤ (gwRm Y).slots) (k : K (some (.int v)) h) : G Φ Y (gw_M Φ Y K) x cells slots pc lv [.int v] h := by
  intro p e s m args below meth c H locs ls F hH hS hl
  refine W.widen hc hs ?_
  exact W.zret F.1 F.2.1 (F.2.2.2.1.trans hr) hnar (fun t ht hW => ⟨⟨_, h, rfl, k, by rw [ht]; exact hH⟩, hS.F ht⟩) hS.2.2 d F.2.2.2.2.1
theorem gw_zretX {v : Int32} {ty : FieldType} (hnar : narrow ty (.int v) = .int v) (d : decode Y.2.1 pc = .ok (.ireturn, 1)) (hr : Y.2.2.2.1 = some ty) (hc : cells ≤ (gwRm Y).cells) (hs : slots ≤ (gwRm Y).slots) (k : K (some (.int v)) h) : G Φ Y (gw_MX Φ Y K KX) x cells slots pc lv [.int v] h := by
  intro p e s m args below meth c H locs ls F hH hS hl
  refine W.widen hc hs ?_
  refine vx_ret ?_
  exact W.zret F.1 F.2.1 (F.2.2.2.1.trans hr) hnar (fun t ht hW => ⟨⟨_, h, rfl, k, by rw [ht]; exact hH⟩, hS.F ht⟩) hS.2.2 d F.2.2.2.2.1
theorem gw_lret {v : Int64}  (d : decode Y.2.1 pc = .ok (.lreturn, 1)) (hr : Y.2.2.2.1 = some .long) (hc : cells ≤ (gwRm Y).cells) (hs : slots ≤ (gwRm Y).slots) (k : K (some (.long v)) h) : G Φ Y (gw_M Φ Y K) x cells slots pc lv [.long v] h := by
  intro p e s m args below meth c H locs ls F hH hS hl
  refine W.widen hc hs ?_
  exact W.lret F.1 F.2.1 (F.2.2.2.1.trans hr) (fun t ht hW => ⟨⟨_, h, rfl, k, by rw [ht]; exact hH⟩, hS.F ht⟩) hS.2.2 d F.2.2.2.2.1
theorem gw_lretX {v : Int64}  (d : decode Y.2.1 pc = .ok (.lreturn, 1)) (hr : Y.2.2.2.1 = some .long) (hc : cells ≤ (gwRm Y).cells) (hs : slots ≤ (gwRm Y).slots) (k : K (some (.long v)) h) : G Φ Y (gw_MX Φ Y K KX) x cells slots pc lv [.long v] h := by
  intro p e s m args below meth c H locs ls F hH hS hl
  refine W.widen hc hs ?_
  refine vx_ret ?_
  exact W.lret F.1 F.2.1 (F.2.2.2.1.trans hr) (fun t ht hW => ⟨⟨_, h, rfl, k, by rw [ht]; exact hH⟩, hS.F ht⟩) hS.2.2 d F.2.2.2.2.1
theorem gw_dret {v : UInt64}  (d : decode Y.2.1 pc = .ok (.dreturn, 1)) (hr : Y.2.2.2.1 = some .double) (hc : cells ≤ (gwRm Y).cells) (hs : slots ≤ (gwRm Y).slots) (k : K (some (.double v)) h) : G Φ Y (gw_M Φ Y K) x cells slots pc lv [.double v] h := by
  intro p e s m args below meth c H locs ls F hH hS hl
  refine W.widen hc hs ?_
  exact W.dret F.1 F.2.1 (F.2.2.2.1.trans hr) (fun t ht hW => ⟨⟨_, h, rfl, k, by rw [ht]; exact hH⟩, hS.F ht⟩) hS.2.2 d F.2.2.2.2.1
theorem gw_dretX {v : UInt64}  (d : decode Y.2.1 pc = .ok (.dreturn, 1)) (hr : Y.2.2.2.1 = some .double) (hc : cells ≤ (gwRm Y).cells) (hs : slots ≤ (gwRm Y).slots) (k : K (some (.double v)) h) : G Φ Y (gw_MX Φ Y K KX) x cells slots pc lv [.double v] h := by
  intro p e s m args below meth c H locs ls F hH hS hl
  refine W.widen hc hs ?_
  refine vx_ret ?_
  exact W.dret F.1 F.2.1 (F.2.2.2.1.trans hr) (fun t ht hW => ⟨⟨_, h, rfl, k, by rw [ht]; exact hH⟩, hS.F ht⟩) hS.2.2 d F.2.2.2.2.1
theorem gw_vret (d : decode Y.2.1 pc = .ok (.return_, 1)) (hr : Y.2.2.2.1 = none) (hc : cells ≤ (gwRm Y).cells) (hs : slots ≤ (gwRm Y).slots) (k : K none h) : G Φ Y (gw_M Φ Y K) x cells slots pc lv [] h := by
  intro p e s m args below meth c H locs ls F hH hS hl
  refine W.widen hc hs ?_
  exact W.vret F.1 F.2.1 (F.2.2.2.1.trans hr) (fun t ht hW => ⟨⟨_, h, rfl, k, by rw [ht]; exact hH⟩, hS.F ht⟩) hS.2.2 d F.2.2.2.2.1
theorem gw_vretX (d : decode Y.2.1 pc = .ok (.return_, 1)) (hr : Y.2.2.2.1 = none) (hc : cells ≤ (gwRm Y).cells) (hs : slots ≤ (gwRm Y).slots) (k : K none h) : G Φ Y (gw_MX Φ Y K KX) x cells slots pc lv [] h := by
  intro p e s m args below meth c H locs ls F hH hS hl
  refine W.widen hc hs ?_
  refine vx_ret ?_
  exact W.vret F.1 F.2.1 (F.2.2.2.1.trans hr) (fun t ht hW => ⟨⟨_, h, rfl, k, by rw [ht]; exact hH⟩, hS.F ht⟩) hS.2.2 d F.2.2.2.2.1
/-- thrown, and not caught here -/
theorem gw_out {X : String} (hno : Y.2.2.2.2.2 = []) (hc : cells ≤ (gwRm Y).cells) (hs : slots ≤ (gwRm Y).slots) (k : KX X h) : GX Φ Y (gw_MX Φ Y K KX) x cells slots pc lv X h := by
  intro p e s m args below meth c H locs ls rest q ce F hH hS hl hce hcv hcl
  have ht := F.2.2.2.2.2.2.2.1
  rw [hno] at ht
  exact vx_out (fun z hz => by rw [ht] at hz; cases hz) F.2.2.2.2.1 hce hcv hcl (fun t ht' hW => ⟨⟨h, k, by rw [ht']; exact hH⟩, hS.F ht'⟩) hS.2.2 hc hs
end Ends
section Catch
variable {Φ : gwC} {Y : gwY} {E : gwE} {x : Option Nat} {cells slots pc pc' : Nat} {lv : List (Nat × Value)} {st : List Value} {h : gwHp}
theorem gw_catch {X name : String} (pre : List (Nat × Nat × Nat × Nat)) (r : Nat × Nat × Nat × Nat) (suf : List (Nat × Nat × Nat × Nat)) (hsp : Y.2.2.2.2.2 = pre ++ r :: suf) (hpass : ∀ z ∈ pre, z.2.2.2 ≠ 0 ∧ ∃ nm : String, Cond.classLink Y.1.cls z.2.2.2 nm ∈ gw_W ∧ (X, nm) ∈ gw_nc) (hx : covers ⟨r.1, r.2.1, r.2.2.1, r.2.2.2⟩ pc = true) (h0 : r.2.2.2 ≠ 0) (hlink : Cond.classLink Y.1.cls r.2.2.2 name ∈ gw_W) (hcast : Cond.castable X name ∈ gw_NW)
    (k : ∀ q : Nat, G Φ Y E x cells slots r.2.2.1 lv [.ref q] h) : GX Φ Y E x cells slots pc lv X h := by
  intro p e s m args below meth c H locs ls rest q ce F hH hS hl hce hcv hcl
  have ht := F.2.2.2.2.2.2.2.1
  have hw := F.2.2.2.2.2.2.2.2.1
  have hn := F.2.2.2.2.2.2.2.2.2.1.2.2.2.2.1
  rw [hsp] at ht
  refine vx_catch (own := Y.1.cls) F.2.2.2.2.2.1 (tableOf pre) ⟨r.1, r.2.1, r.2.2.1, r.2.2.2⟩ (tableOf suf) (by rw [ht]; simp [tableOf]) (fun z hz => ?_) hx h0 (hw _ hlink) (va_Nw.use rfl (F.2.2.2.2.2.2.2.2.2.1.2.2.2.2.2.2.2 _ hcast)) hce hcv hcl (k q p e s m args below meth c H locs ls F hH hS hl)
  obtain ⟨z0, hz0, rfl⟩ := List.mem_map.mp hz
  obtain ⟨h1, nm, h2, h3⟩ := hpass z0 hz0
  exact Or.inr ⟨h1, nm, hw _ h2, hn _ h3⟩
/-- throw new X("text") -/
theorem gw_throw {K : Option Value → gwHp → Prop} {KX : String → gwHp → Prop} {X text : String} {names : List String} {ik is ic : Nat} (hcls : Bundle.fit X = true) (hnames : ∀ n ∈ names, Bundle.fit n = true) (hk : Cond.classLink Y.1.cls ik X ∈ gw_W) (hini : Cond.initialized X ∈ gw_W) (hat : ∀ w ∈ vx_atS Y.1.cls ic X names, w ∈ gw_W ∨ w ∈ gw_NW ∧ w.onTables = true) (hstr : (Y.1.cls, is, text) ∈ gw_strs)
    (d0 : decode Y.2.1 pc = .ok (.new ik, 3)) (d3 : decode Y.2.1 (pc + 3) = .ok (.dup, 1)) (d4 : decode Y.2.1 (pc + 4) = .ok (.ldc is, 2)) (d6 : decode Y.2.1 (pc + 6) = .ok (.invokespecial ic, 3)) (d9 : decode Y.2.1 (pc + 9) = .ok (.athrow, 1)) (hno : Y.2.2.2.2.2 = [])
    (hRf : names.length + 3 < (gwRm Y).frames) (hRl : (13 * (names.length + 1) + 43) ≤ (gwRm Y).locals) (hc : cells + 1 ≤ (gwRm Y).cells) (hs : slots + 6 ≤ (gwRm Y).slots) (k : KX X h) : G Φ Y (gw_MX Φ Y K KX) x cells slots pc lv [] h := by
  intro p e s m args below meth c H locs ls F hH hS hl
  have hw := F.2.2.2.2.2.2.2.2.1
  obtain ⟨-, hU, hN, hst, -, -, hst0, hNW⟩ := F.2.2.2.2.2.2.2.2.2.1
  have hat9 : ∀ w ∈ vx_atS Y.1.cls ic X names, w.before args s = true := fun w h9 => (hat w h9).elim (hw w) (fun z => va_Nw.use z.2 (hNW w z.1))
  obtain ⟨sa, hsa⟩ := hst _ hstr
  have hgd : ∀ w : Cond, w ∈ gw_W → vx_ot w = true := fun w hw => by
    have hg := (List.mem_filter.mp hw).2
    unfold vx_ot
    rw [hg, Bool.or_true]
  have ht := F.2.2.2.2.2.2.2.1
  rw [hno] at ht
  exact vx_throwS F.1 F.2.1 hst0 F.2.2.2.2.2.1 hcls hnames (hw _ hk) (hw _ hini) hsa hat9 (fun w h9 => (List.mem_cons.mp h9).elim (fun e => e ▸ hgd _ hk) (fun h9 => (List.mem_cons.mp h9).elim (fun e => e ▸ hgd _ hini) (fun h9 => (hat w h9).elim (hgd w) (fun z => by unfold vx_ot; rw [z.2, Bool.true_or])))) hU hN hS (hl.1.trans F.2.2.1.symm) d0 d3 d4 d6 d9 (fun z hz => by rw [ht] at hz; cases hz) hRf (by simpa using hRl) hc hs F.2.2.2.2.1
    (fun t hvm hz hq => ⟨⟨h, k, by
      obtain ⟨ws, h1, h2, h3⟩ := hH
      exact ⟨ws, h1, h2.kept (fun k9 x9 hx9 => hq x9.1 ((h2 k9 x9 hx9).lt)), h3⟩⟩, Nat.le_trans hS.1 hz, fun q h1 h2 => (hq q (Nat.lt_of_lt_of_le h1 hS.1)).trans (hS.2.1 q h1 h2)⟩) hS.2.2 hc hs
theorem gw_throwW {K : Option Value → gwHp → Prop} {KX : String → gwHp → Prop} {X text : String} {names : List String} {ik is ic : Nat} (hcls : Bundle.fit X = true) (hnames : ∀ n ∈ names, Bundle.fit n = true) (hk : Cond.classLink Y.1.cls ik X ∈ gw_W) (hini : Cond.initialized X ∈ gw_W) (hat : ∀ w ∈ vx_atS Y.1.cls ic X names, w ∈ gw_W ∨ w ∈ gw_NW ∧ w.onTables = true) (hstr : (Y.1.cls, is, text) ∈ gw_strs)
    (d0 : decode Y.2.1 pc = .ok (.new ik, 3)) (d3 : decode Y.2.1 (pc + 3) = .ok (.dup, 1)) (d4 : decode Y.2.1 (pc + 4) = .ok (.ldc_w is, 3)) (d7 : decode Y.2.1 (pc + 7) = .ok (.invokespecial ic, 3)) (d10 : decode Y.2.1 (pc + 10) = .ok (.athrow, 1)) (hno : Y.2.2.2.2.2 = [])
    (hRf : names.length + 3 < (gwRm Y).frames) (hRl : (13 * (names.length + 1) + 43) ≤ (gwRm Y).locals) (hc : cells + 1 ≤ (gwRm Y).cells) (hs : slots + 6 ≤ (gwRm Y).slots) (k : KX X h) : G Φ Y (gw_MX Φ Y K KX) x cells slots pc lv [] h := by
  intro p e s m args below meth c H locs ls F hH hS hl
  have hw := F.2.2.2.2.2.2.2.2.1
  obtain ⟨-, hU, hN, hst, -, -, hst0, hNW⟩ := F.2.2.2.2.2.2.2.2.2.1
  have hat9 : ∀ w ∈ vx_atS Y.1.cls ic X names, w.before args s = true := fun w h9 => (hat w h9).elim (hw w) (fun z => va_Nw.use z.2 (hNW w z.1))
  obtain ⟨sa, hsa⟩ := hst _ hstr
  have hgd : ∀ w : Cond, w ∈ gw_W → vx_ot w = true := fun w hw => by
    have hg := (List.mem_filter.mp hw).2
    unfold vx_ot
    rw [hg, Bool.or_true]
  have ht := F.2.2.2.2.2.2.2.1
  rw [hno] at ht
  exact vx_throwSW F.1 F.2.1 hst0 F.2.2.2.2.2.1 hcls hnames (hw _ hk) (hw _ hini) hsa hat9 (fun w h9 => (List.mem_cons.mp h9).elim (fun e => e ▸ hgd _ hk) (fun h9 => (List.mem_cons.mp h9).elim (fun e => e ▸ hgd _ hini) (fun h9 => (hat w h9).elim (hgd w) (fun z => by unfold vx_ot; rw [z.2, Bool.true_or])))) hU hN hS (hl.1.trans F.2.2.1.symm) d0 d3 d4 d7 d10 (fun z hz => by rw [ht] at hz; cases hz) hRf (by simpa using hRl) hc hs F.2.2.2.2.1
    (fun t hvm hz hq => ⟨⟨h, k, by
      obtain ⟨ws, h1, h2, h3⟩ := hH
      exact ⟨ws, h1, h2.kept (fun k9 x9 hx9 => hq x9.1 ((h2 k9 x9 hx9).lt)), h3⟩⟩, Nat.le_trans hS.1 hz, fun q h1 h2 => (hq q (Nat.lt_of_lt_of_le h1 hS.1)).trans (hS.2.1 q h1 h2)⟩) hS.2.2 hc hs
end Catch
def gw_psh (v : Option Value) (st : List Value) : List Value := v.toList ++ st
section Calls
variable {Φ : gwC} {Y Y' : gwY} {E : gwE} {x x' : Option Nat} {cells slots pc pc' : Nat} {lv : List (Nat × Value)} {h : gwHp} {n index : Nat}
section
variable {p : Program} {e : Env} {s : State} {m : MethodId} {args : Array Value} {below : List Frame} {meth : Method} {c : Code} {H : Heap} {locs : List Loc} {ls : Array Slot} {st0 rest : List Value} {a : Array Value}
theorem gw_run (F : gw_Fr Φ Y x p s m args meth c) (hS : va_S (gw_A Φ.2.1) s.heap H locs) (hl : lv_has ls Y.2.2.1 lv) {mc ms : Nat} (hr : va_Run p Φ.1 e (gwRm Y) s m args below meth c H locs cells slots mc ms (F0 m pc ls st0) rest (gw_Q Φ (fun v h' => G Φ Y E x (cells + mc) (slots + ms) (pc + 3) lv (gw_psh v rest) h') a) (gw_A Φ.2.1)) : W p Φ.1 e (gwRm Y) s m args below meth c H locs cells slots (E below args s) (F0 m pc ls st0) := by
  intro T hT X
  obtain ⟨v, st₀, t, T', L, h0, X', hL, e1, e2, ⟨⟨v', h', hv, hK, hH'⟩, hF⟩, st⟩ := hr T hT X
  cases hv
  obtain ⟨k1, k2, k3⟩ := vx_keep h0 e1 hS (fun _ _ z => z) (fun _ z => z) hL hF
  obtain ⟨t2, a1, b1⟩ := hK p e s m args below meth c T'.heap (locs ++ L) ls F (by rw [e1]; exact hH') k3 hl T' rfl X'
  exact ⟨t2, st t2 a1, b1⟩
theorem gw_runX (F : gw_Fr Φ Y x p s m args meth c) (hS : va_S (gw_A Φ.2.1) s.heap H locs) (hl : lv_has ls Y.2.2.1 lv) {mc ms : Nat} (hr : vx_Run p Φ.1 e (gwRm Y) s m args below meth c H locs cells slots mc ms (F0 m pc ls st0) rest (gw_Q Φ (fun v h' => G Φ Y E x (cells + mc) (slots + ms) (pc + 3) lv (gw_psh v rest) h') a) (gw_X Φ (fun X h' => GX Φ Y E x (cells + mc) (slots + ms) pc lv X h')) (gw_A Φ.2.1)) : W p Φ.1 e (gwRm Y) s m args below meth c H locs cells slots (E below args s) (F0 m pc ls st0) := by
  intro T hT X
  rcases hr T hT X with ⟨v, st₀, t, T', L, h0, X', hL, e1, e2, ⟨⟨v', h', hv, hK, hH'⟩, hF⟩, st⟩ | ⟨q, st₀, t, T', L, Ex, ce, h0, X', hL, e1, e2, ⟨⟨h', hK, hH'⟩, hF⟩, hce, hcv, hcl, st⟩
  · cases hv
    obtain ⟨k1, k2, k3⟩ := vx_keep h0 e1 hS (fun _ _ z => z) (fun _ z => z) hL hF
    obtain ⟨t2, a1, b1⟩ := hK p e s m args below meth c T'.heap (locs ++ L) ls F (by rw [e1]; exact hH') k3 hl T' rfl X'
    exact ⟨t2, st t2 a1, b1⟩
  · obtain ⟨k1, k2, k3⟩ := vx_keep h0 e1 hS (fun _ _ z => z) (fun _ z => z) hL hF
    obtain ⟨t2, a1, b1⟩ := hK p e s m args below meth c T'.heap (locs ++ L) ls rest q ce F (by rw [e1]; exact hH') k3 hl (by rw [e1]; exact hce) hcv hcl T' rfl X'
    exact ⟨t2, st.trans a1, b1⟩
theorem gw_pre (F : gw_Fr Φ Y x p s m args meth c) (hH : gw_H Φ h H) (hS : va_S (gw_A Φ.2.1) s.heap H locs) {As : List Value} {x' : Option Nat} (hx' : ∀ N, x' = some N → H.size = N) : ∀ U : State, U.heap = H → s.WarmedH U.vm → gw_P Φ x' As h As.toArray U :=
  fun U hU hW => ⟨rfl, F.2.2.2.2.2.2.2.2.2.1.moved hS hU hW.alike hW, by rw [hU]; exact hH, fun N hN => by rw [hU]; exact hx' N hN⟩
theorem gw_recv (F : gw_Fr Φ Y x p s m args meth c) (hH : gw_H Φ h H) {b ci : Nat} {fs : List Value} {C : String} (hb : h b = some (.inr (ci, fs))) (hci : (vwCl[ci]?).map (fun q => q.1) = some C) : ∃ cellB : Cell, H[b]? = some cellB ∧ cellB.vm.isStatics = false ∧ s.vm.findClass C = some cellB.cls := by
  cases hq : vwCl[ci]? with
  | none => rw [hq] at hci; cases hci
  | some q =>
    rw [hq] at hci
    have hC : q.1 = C := Option.some.inj hci
    subst hC
    exact va_recv F.2.2.2.2.2.2.2.2.2.1.1 (hH.one hb) (ci := ci) (q0 := 0) hq rfl
end
theorem gw_room {st : List Value} {ls : Array Slot} {m : MethodId} {st0 : List Value} (h : (st.map fun v => v.category).sum ≤ 8) : 2 * (F0 m pc ls st0).monitorRoom + (st.map fun v => v.category).sum ≤ 8 := by
  have : (F0 m pc ls st0).monitorRoom = 0 := rfl
  omega
/-- the room that a call needs -/
abbrev gw_fit (Y Y' : gwY) : Prop := (gwRm Y').frames + 1 ≤ (gwRm Y).frames ∧ 8 + (Y'.2.2.1 + 11) + (gwRm Y').locals ≤ (gwRm Y).locals
theorem gw_callV (ok : gw_ok Y' n) (d : decode Y.2.1 pc = .ok (.invokevirtual index, 3)) (hl0 : Cond.methodLink Y.1.cls index Y'.1 ∈ gw_W) (hi : Cond.instanceMethod Y'.1 ∈ gw_W) (hse : Cond.selects Y'.1.cls Y'.1 Y'.1 ∈ gw_W) {b ci : Nat} {fs : List Value} (As rest : List Value) (hn : As.length = n) (hb : h b = some (.inr (ci, fs))) (hci : (vwCl[ci]?).map (fun q => q.1) = some Y'.1.cls) (hR : gw_fit Y Y') (hf : cells + (gwRm Y').cells ≤ (gwRm Y).cells ∧ slots + (gwRm Y').slots ≤ (gwRm Y).slots) (hW : (rest.map fun v => v.category).sum ≤ 8)
    (hM : gw_Con Φ Y' none (.ref b :: As) h (fun v h' => G Φ Y E x (cells + (gwRm Y').cells) (slots + (gwRm Y').slots) (pc + 3) lv (gw_psh v rest) h')) : G Φ Y E x cells slots pc lv (As.reverse ++ .ref b :: rest) h := by
  intro p e s m args below meth c H locs ls F hH hS hl
  have hw := F.2.2.2.2.2.2.2.2.1
  refine gw_run F hS hl (va_runV (As := As) (rest := rest) (C := Y'.1.cls) ⟨F.1, F.2.1, F.2.2.1, F.2.2.2.2.2.1, hw⟩ hM (cwV n hw (gw_good (gw_cons hl0 (gw_cons hi (gw_cons hse (gw_cons ok.2.2.1 (gw_cons ok.2.1 (fun _ z => z))))))) rfl rfl rfl ⟨rfl, ok.2.2.2.1⟩ hR) ⟨gw_blind, gw_recv F hH hb hci, gw_pre F hH hS (fun _ z => nomatch z)⟩ rfl hn hl.1 rfl (gw_room hW) d hf)
theorem gw_callVX (ok : gw_ok Y' n) (d : decode Y.2.1 pc = .ok (.invokevirtual index, 3)) (hl0 : Cond.methodLink Y.1.cls index Y'.1 ∈ gw_W) (hi : Cond.instanceMethod Y'.1 ∈ gw_W) (hse : Cond.selects Y'.1.cls Y'.1 Y'.1 ∈ gw_W) {b ci : Nat} {fs : List Value} (As rest : List Value) (hn : As.length = n) (hb : h b = some (.inr (ci, fs))) (hci : (vwCl[ci]?).map (fun q => q.1) = some Y'.1.cls) (hR : gw_fit Y Y') (hf : cells + (gwRm Y').cells ≤ (gwRm Y).cells ∧ slots + (gwRm Y').slots ≤ (gwRm Y).slots) (hW : (rest.map fun v => v.category).sum ≤ 8)
    (hM : gw_ConX Φ Y' (.ref b :: As) h (fun v h' => G Φ Y E x (cells + (gwRm Y').cells) (slots + (gwRm Y').slots) (pc + 3) lv (gw_psh v rest) h') (fun X h' => GX Φ Y E x (cells + (gwRm Y').cells) (slots + (gwRm Y').slots) pc lv X h')) : G Φ Y E x cells slots pc lv (As.reverse ++ .ref b :: rest) h := by
  intro p e s m args below meth c H locs ls F hH hS hl
  have hw := F.2.2.2.2.2.2.2.2.1
  refine gw_runX F hS hl (vx_runV (As := As) (rest := rest) (C := Y'.1.cls) ⟨F.1, F.2.1, F.2.2.1, F.2.2.2.2.2.1, hw⟩ hM (cwV n hw (gw_good (gw_cons hl0 (gw_cons hi (gw_cons hse (gw_cons ok.2.2.1 (gw_cons ok.2.1 (fun _ z => z))))))) rfl rfl rfl ⟨rfl, ok.2.2.2.1⟩ hR) ⟨gw_blind, gw_recv F hH hb hci, gw_pre F hH hS (fun _ z => nomatch z)⟩ rfl hn hl.1 rfl (gw_room hW) d hf)
theorem gw_callS (ok : gw_ok Y' n) (d : decode Y.2.1 pc = .ok (.invokestatic index, 3)) (hl0 : Cond.methodLink Y.1.cls index Y'.1 ∈ gw_W) (hstt : Cond.static Y'.1 ∈ gw_W) (As rest : List Value) (hn : As.length = n) (hR : gw_fit Y Y') (hf : cells + (gwRm Y').cells ≤ (gwRm Y).cells ∧ slots + (gwRm Y').slots ≤ (gwRm Y).slots) (hW : (rest.map fun v => v.category).sum ≤ 8)
    (hM : gw_Con Φ Y' none As h (fun v h' => G Φ Y E x (cells + (gwRm Y').cells) (slots + (gwRm Y').slots) (pc + 3) lv (gw_psh v rest) h')) : G Φ Y E x cells slots pc lv (As.reverse ++ rest) h := by
  intro p e s m args below meth c H locs ls F hH hS hl
  have hw := F.2.2.2.2.2.2.2.2.1
  refine gw_run F hS hl (va_runS (As := As) (rest := rest) ⟨F.1, F.2.1, F.2.2.1, F.2.2.2.2.2.1, hw⟩ hM (va_cwS n hw (gw_good (gw_cons hl0 (gw_cons hstt (gw_cons ok.2.2.1 (gw_cons ok.2.1 (fun _ z => z)))))) rfl rfl rfl ok.2.2.2.1 hR) ⟨gw_blind, gw_pre F hH hS (fun _ z => nomatch z)⟩ rfl hn hl.1 rfl (gw_room hW) d hf)
theorem gw_callSX (ok : gw_ok Y' n) (d : decode Y.2.1 pc = .ok (.invokestatic index, 3)) (hl0 : Cond.methodLink Y.1.cls index Y'.1 ∈ gw_W) (hstt : Cond.static Y'.1 ∈ gw_W) (As rest : List Value) (hn : As.length = n) (hR : gw_fit Y Y') (hf : cells + (gwRm Y').cells ≤ (gwRm Y).cells ∧ slots + (gwRm Y').slots ≤ (gwRm Y).slots) (hW : (rest.map fun v => v.category).sum ≤ 8)
    (hM : gw_ConX Φ Y' As h (fun v h' => G Φ Y E x (cells + (gwRm Y').cells) (slots + (gwRm Y').slots) (pc + 3) lv (gw_psh v rest) h') (fun X h' => GX Φ Y E x (cells + (gwRm Y').cells) (slots + (gwRm Y').slots) pc lv X h')) : G Φ Y E x cells slots pc lv (As.reverse ++ rest) h := by
  intro p e s m args below meth c H locs ls F hH hS hl
  have hw := F.2.2.2.2.2.2.2.2.1
  refine gw_runX F hS hl (vx_runS (As := As) (rest := rest) ⟨F.1, F.2.1, F.2.2.1, F.2.2.2.2.2.1, hw⟩ hM (va_cwS n hw (gw_good (gw_cons hl0 (gw_cons hstt (gw_cons ok.2.2.1 (gw_cons ok.2.1 (fun _ z => z)))))) rfl rfl rfl ok.2.2.2.1 hR) ⟨gw_blind, gw_pre F hH hS (fun _ z => nomatch z)⟩ rfl hn hl.1 rfl (gw_room hW) d hf)
theorem gw_callSH (ok : gw_okX Y' n) (d : decode Y.2.1 pc = .ok (.invokestatic index, 3)) (hl0 : Cond.methodLink Y.1.cls index Y'.1 ∈ gw_W) (hstt : Cond.static Y'.1 ∈ gw_W) (As rest : List Value) (hn : As.length = n) (hR : gw_fit Y Y') (hf : cells + (gwRm Y').cells ≤ (gwRm Y).cells ∧ slots + (gwRm Y').slots ≤ (gwRm Y).slots) (hW : (rest.map fun v => v.category).sum ≤ 8)
    (hM : gw_ConH Φ Y' As h (fun v h' => G Φ Y E x (cells + (gwRm Y').cells) (slots + (gwRm Y').slots) (pc + 3) lv (gw_psh v rest) h') (fun X h' => GX Φ Y E x (cells + (gwRm Y').cells) (slots + (gwRm Y').slots) pc lv X h')) : G Φ Y E x cells slots pc lv (As.reverse ++ rest) h := by
  intro p e s m args below meth c H locs ls F hH hS hl
  have hw := F.2.2.2.2.2.2.2.2.1
  refine gw_runX F hS hl (vx_runSX (As := As) (rest := rest) ⟨F.1, F.2.1, F.2.2.1, F.2.2.2.2.2.1, hw⟩ hM (vx_cwSW n hw (gw_good (gw_cons hl0 (gw_cons hstt (gw_cons ok.2.2.1 (gw_cons ok.2.1 (fun _ z => z)))))) rfl rfl rfl ok.2.2.2 hR) ⟨gw_blind, gw_pre F hH hS (fun _ z => nomatch z)⟩ rfl hn hl.1 rfl (gw_room hW) d hf)
/-- a static method of a nest mate -/
theorem gw_callSN {host : String} (ok : gw_ok Y' n) (d : decode Y.2.1 pc = .ok (.invokestatic index, 3)) (hl0 : Cond.methodLinkNest Y.1.cls index Y'.1 host ∈ gw_NW) (hstt : Cond.static Y'.1 ∈ gw_W) (As rest : List Value) (hn : As.length = n) (hR : gw_fit Y Y') (hf : cells + (gwRm Y').cells ≤ (gwRm Y).cells ∧ slots + (gwRm Y').slots ≤ (gwRm Y).slots) (hW : (rest.map fun v => v.category).sum ≤ 8)
    (hM : gw_Con Φ Y' none As h (fun v h' => G Φ Y E x (cells + (gwRm Y').cells) (slots + (gwRm Y').slots) (pc + 3) lv (gw_psh v rest) h')) : G Φ Y E x cells slots pc lv (As.reverse ++ rest) h := by
  intro p e s m args below meth c H locs ls F hH hS hl
  have hw := F.2.2.2.2.2.2.2.2.1
  refine gw_run F hS hl (va_runSN (As := As) (rest := rest) ⟨F.1, F.2.1, F.2.2.1, F.2.2.2.2.2.1, hw⟩ hM ⟨va_cnB (args := args) n hw (gw_good (gw_cons ok.2.1 (fun _ z => z))) rfl rfl rfl (F.2.2.2.2.2.2.2.2.2.1.2.2.2.2.2.2.2 _ hl0) (hw _ ok.2.2.1) ok.2.2.2.1 hR, hw _ hstt, trivial⟩ ⟨gw_blind, gw_pre F hH hS (fun _ z => nomatch z)⟩ rfl hn hl.1 rfl (gw_room hW) d hf)
end Calls
end GC
