section LA
abbrev mL_law : gwY := (yL_law, cL_law, 10, (Option.some Jvm.ClassFile.FieldType.boolean), room_1, [])
/-- an end that counts where P holds of the start -/
def EP (P : Array Value → State → Prop) (Z : gwE) : gwE := fun below args s t => P args s → Z below args s t
/-- the script stands at b -/
def XP (b L : Nat) (xs : Nat → Int32) (s : State) : Prop := va_X b L xs s s.heap ∧ b < s.heap.size
section
variable {Φ : gwC} {Y : gwY} {Z : gwE} {P : Array Value → State → Prop} {b L : Nat} {xs : Nat → Int32} {x : Option Nat} {cells slots pc pc' : Nat} {lv : List (Nat × Value)} {st : List Value} {h : gwHp}
def SA (xs : Nat → Int32) (j : Int) : Int := (xs j.toNat).toInt
theorem gl_sldP {j : Int} (hP : ∀ args s, P args s → XP b L xs s ∧ b < Φ.2.1) (hi : 0 ≤ j ∧ j < (L : Int)) (hL : L ≤ 2048) (d : decode Y.2.1 pc = .ok (.iaload, 1)) (e9 : pc + 1 = pc') (k : G Φ Y (EP P Z) x cells slots pc' lv (vI (SA xs j) :: st) h) : G Φ Y (EP P Z) x cells slots pc lv (vI j :: .ref b :: st) h := by
  subst e9
  have e := i32_nn hi (show L ≤ 2000000000 by omega)
  have hin := i32_in (n := L) hi (by omega)
  have k2 : G Φ Y (EP P Z) x cells slots (pc + 1) lv (.int (xs (i32 j).toNatClampNeg) :: st) h := by
    rw [show (i32 j).toNatClampNeg = j.toNat by omega, i32_o (xs j.toNat)]
    exact k
  intro p e s m args below meth c H locs ls F hH hS hl
  by_cases hQ : P args s
  · obtain ⟨hX, hb⟩ := hP args s hQ
    exact va_sld F.1 F.2.1 hX.1 hX.2 (show ¬ Φ.2.1 ≤ b by omega) hS hin d (k2 p e s m args below meth c H locs ls F hH hS hl)
  · exact fun T hT X => ⟨_, Steps.refl _, fun h => absurd h hQ⟩
theorem gl_slenP (hP : ∀ args s, P args s → XP b L xs s ∧ b < Φ.2.1) (d : decode Y.2.1 pc = .ok (.arraylength, 1)) (e9 : pc + 1 = pc') (k : G Φ Y (EP P Z) x cells slots pc' lv (vI L :: st) h) : G Φ Y (EP P Z) x cells slots pc lv (.ref b :: st) h := by
  subst e9
  have k2 : G Φ Y (EP P Z) x cells slots (pc + 1) lv (.int (Int32.ofNat L) :: st) h := by
    rw [← Int32.ofInt_eq_ofNat]
    exact k
  intro p e s m args below meth c H locs ls F hH hS hl
  by_cases hQ : P args s
  · obtain ⟨hX, hb⟩ := hP args s hQ
    exact va_slen F.1 F.2.1 hX.1 hX.2 (show ¬ Φ.2.1 ≤ b by omega) hS d (k2 p e s m args below meth c H locs ls F hH hS hl)
  · exact fun T hT X => ⟨_, Steps.refl _, fun h => absurd h hQ⟩
end
/-- a cell of the script, or what stands for it behind its end -/
def cellZ (xs : Nat → Int32) (L : Nat) (j : Int) : Int := if j < (L : Int) then SA xs j else 7919 * (j + 7) * (j + 1097)
def PcC (Φ : gwC) (b L : Nat) (xs : Nat → Int32) (j : Int) (h : gwHp) : Array Value → State → Prop := va_Pc [.ref b, vI j] (fun U => gw_E Φ U ∧ gw_H Φ h U.heap ∧ XP b L xs U ∧ b < Φ.2.1)
theorem PcC_blind {Φ : gwC} {b L : Nat} {xs : Nat → Int32} {j : Int} {h : gwHp} : FrameBlind (PcC Φ b L xs j h) := fun a U g mk q => by
  obtain ⟨q0, q1, q2, q3, q4⟩ := q
  exact ⟨q0, q1.moved (locs := []) (H := U.heap) va_S.rf rfl (Vm.Alike.refl U.vm) (State.WarmedH.refl U), q2, ⟨va_X.moved (Vm.Alike.refl U.vm) q3.1, q3.2⟩, q4⟩
set_option maxRecDepth 100000 in
theorem c_cellG {Φ : gwC} {Z : gwE} {P : Array Value → State → Prop} {b L : Nat} {xs : Nat → Int32} {j : Int} {h : gwHp} (hP : ∀ args s, P args s → XP b L xs s ∧ b < Φ.2.1) (hL : L ≤ 260) (hj : 0 ≤ j ∧ j ≤ 1000) (hZ : ∀ lv, G Φ mL_cell (EP P Z) none 0 0 26 lv [vI (cellZ xs L j)] h) : G Φ mL_cell (EP P Z) none 0 0 0 [(0, .ref b), (1, vI j)] [] h := by
  refine gw_iload_n dL_cell_0 rfl rfl ?_
  refine gw_aload_n dL_cell_1 rfl rfl ?_
  refine gl_slenP hP dL_cell_2 rfl ?_
  refine gw_icmp_geZ (tgt := 12) dL_cell_3 rfl (by decide) ⟨by omega, by omega⟩ ⟨by omega, by omega⟩ (fun q => ?_) (fun q => ?_)
  · refine gw_sipushZ dL_cell_12 rfl (by decide) ?_
    refine gw_iload_n dL_cell_15 rfl rfl ?_
    refine gw_bipushZ dL_cell_16 rfl (by decide) ?_
    refine gw_iaddZ dL_cell_18 rfl ?_
    refine gw_imulZ dL_cell_19 rfl ?_
    refine gw_iload_n dL_cell_20 rfl rfl ?_
    refine gw_sipushZ dL_cell_21 rfl (by decide) ?_
    refine gw_iaddZ dL_cell_24 rfl ?_
    refine gw_imulZ dL_cell_25 rfl ?_
    have k := hZ [(0, .ref b), (1, vI j)]
    unfold cellZ at k
    rw [if_neg (by omega)] at k
    exact k
  · refine gw_aload_n dL_cell_6 rfl rfl ?_
    refine gw_iload_n dL_cell_7 rfl rfl ?_
    refine gl_sldP hP ⟨hj.1, by omega⟩ (by omega) dL_cell_8 rfl ?_
    refine gw_goto (tgt := 26) dL_cell_9 (by decide) ?_
    have k := hZ [(0, .ref b), (1, vI j)]
    unfold cellZ at k
    rw [if_pos (by omega)] at k
    exact k
theorem k_cell {Φ : gwC} {b L : Nat} {xs : Nat → Int32} {j : Int} {h : gwHp} {K : Option Value → gwHp → Prop} (hL : L ≤ 260) (hj : 0 ≤ j ∧ j ≤ 1000) (hK : K (some (vI (cellZ xs L j))) h) : Met Φ.1 yL_cell (gw_ws mL_cell) (gwRm mL_cell) (PcC Φ b L xs j h) (gw_Q Φ K) 0 0 (gw_A Φ.2.1) := by
  refine Met.ofW (cc := cL_cell) (maxL := 2) (ret := (Option.some Jvm.ClassFile.FieldType.int)) okL_cell.1 rfl ?_
  intro p e s m args' below meth c s₁ B hml hv
  obtain ⟨rfl, hE, hH, hX, hb⟩ := hv
  have hl := lv_entry ([.ref b, vI j]) (n := 2) (Nat.le_of_ble_eq_true rfl)
  rw [lg_entry_eq]
  have k := c_cellG (Φ := Φ) (Z := gw_M Φ mL_cell K) (P := fun _ s => XP b L xs s ∧ b < Φ.2.1) (b := b) (L := L) (xs := xs) (j := j) (h := h) (fun _ _ h => h) hL hj (fun lv => by
    intro p e s m args below meth c H locs ls F hH hS hl
    have k9 := gw_iret (Φ := Φ) (Y := mL_cell) (x := none) (cells := 0) (slots := 0) (pc := 26) (lv := lv) (h := h) (K := K) dL_cell_26 rfl (by decide) (by decide) hK p e s m args below meth c H locs ls F hH hS hl
    intro T hT X
    obtain ⟨t, a1, h9⟩ := k9 T hT X
    exact ⟨t, a1, fun _ => h9⟩)
  have k2 := k p e s m _ below meth c s.heap [] _ ⟨B.exec, B.bytes, hml, B.returns, B.notSynchronized, findClass_of_methodNamed B.named, (name_of_methodNamed B.named B.method).1, ?_, fun w hw => atoms_spec (ws := gw_ws mL_cell) B.pre w (List.mem_cons_of_mem _ hw), hE, fun _ z => nomatch z⟩ hH va_S.rf hl
  · intro T hT X
    obtain ⟨t, a1, h9⟩ := k2 T hT X
    exact ⟨t, a1, h9 ⟨hX, hb⟩⟩
  · obtain ⟨meth9, c9, h1, h2, -, -, -, -, h7, -⟩ := Cond.code_spec B.named (atoms_spec (ws := gw_ws mL_cell) B.pre _ List.mem_cons_self)
    cases Option.some.inj (h1.symm.trans B.method)
    cases Option.some.inj (h2.symm.trans (Stand.of_body B).code)
    rw [Array.isEmpty_iff.mp h7]
    rfl
/-- what the walk of the law ends in, if its script stands -/
def PL9 (b L B : Nat) (xs : Nat → Int32) : Array Value → State → Prop := fun args s => args = #[Value.ref b] ∧ XP b L xs s ∧ s.heap.size = B
section
variable {Φ : gwC} {Z : gwE} {b L B : Nat} {xs : Nat → Int32} {x : Option Nat} {cells slots pc : Nat} {lv : List (Nat × Value)} {st : List Value} {h hb : gwHp} {M : Nat} {sh : Nat → Option gSh} {c c1 : W0}
theorem la_cell {j : Int} (hB : Φ.2.1 = B) (hL : L ≤ 260) (hj : 0 ≤ j ∧ j ≤ 1000) (hc : cells ≤ 600000) (hs : slots ≤ 7000000) (k : G Φ mL_law (EP (PL9 b L B xs) Z) x cells slots 36 lv [vI (cellZ xs L j)] h) : G Φ mL_law (EP (PL9 b L B xs) Z) x cells slots 33 lv [vI j, .ref b] h := by
  intro p e s m args below meth c H locs ls F hH hS hl
  by_cases hP : PL9 b L B xs args s
  · obtain ⟨h1, h2, h3⟩ := hP
    have hb9 : b < Φ.2.1 := by rw [hB, ← h3]; exact h2.2
    have hXH : va_X b L xs s H := va_X.kept h2.1 (hS.2.1 b h2.2 (show ¬ Φ.2.1 ≤ b by omega))
    have hw := F.2.2.2.2.2.2.2.2.1
    have hM := k_cell (Φ := Φ) (b := b) (L := L) (xs := xs) (j := j) (h := h) (K := fun v h' => G Φ mL_law (EP (PL9 b L B xs) Z) x (cells + 0) (slots + 0) (33 + 3) lv (gw_psh v []) h') hL hj k
    exact gw_run F hS hl (va_runS (As := [.ref b, vI j]) (rest := []) ⟨F.1, F.2.1, F.2.2.1, F.2.2.2.2.2.1, hw⟩ hM (va_cwS 2 hw (gw_good (gw_cons kw_363 (gw_cons kw_364 (gw_cons okL_cell.2.2.1 (gw_cons okL_cell.2.1 (fun _ z => z)))))) rfl rfl rfl okL_cell.2.2.2.1 ⟨Nat.le_of_ble_eq_true rfl, Nat.le_of_ble_eq_true rfl⟩) ⟨PcC_blind, fun U hU hW => ⟨rfl, F.2.2.2.2.2.2.2.2.2.1.moved hS hU hW.alike hW, by rw [hU]; exact hH, ⟨by rw [hU]; exact va_X.moved hW.alike hXH, by rw [hU]; exact Nat.lt_of_lt_of_le h2.2 hS.1⟩, hb9⟩⟩ rfl rfl hl.1 rfl (gw_room (by decide)) dL_law_33 ⟨by show cells + 0 ≤ 600130; omega, by show slots + 0 ≤ 7301080; omega⟩)
  · exact fun T hT X => ⟨_, Steps.refl _, fun h => absurd h hP⟩
theorem la_act {o q : Nat} {v t : Int} (h0 : sD sh o) (h1 : sh q = some (1, 1, [])) (hc : cells ≤ 600000) (hs : slots ≤ 7000000) (d : decode mL_law.2.1 pc = .ok (.invokestatic 197, 3)) (E : f_L_act o v q c = some (t, c1)) (k : G Φ mL_law (EP (PL9 b L B xs) Z) x (cells + 16) (slots + 96) (pc + 3) lv (vI t :: st) (hp Φ hb M sh c1)) (hst : (st.map fun v => v.category).sum ≤ 8) : G Φ mL_law (EP (PL9 b L B xs) Z) x cells slots pc lv (.ref (M + q) :: vI v :: .ref (M + o) :: st) (hp Φ hb M sh c) := by
  refine gw_S3 oknL_act d kw_366 kw_367 ⟨Nat.le_of_ble_eq_true rfl, Nat.le_of_ble_eq_true rfl⟩ ⟨by show cells + 16 ≤ 600130; omega, by show slots + 96 ≤ 7301080; omega⟩ hst (w_L_act h0 h1 E ?_)
  exact k
theorem la_areAlike {o q : Nat} {t : Int} (h0 : sD sh o) (h1 : sD sh q) (hc : cells ≤ 600000) (hs : slots ≤ 7000000) (d : decode mL_law.2.1 pc = .ok (.invokestatic 201, 3)) (E : f_L_areAlike o q c = some (t, c1)) (k : G Φ mL_law (EP (PL9 b L B xs) Z) x (cells + 0) (slots + 0) (pc + 3) lv (vI t :: st) (hp Φ hb M sh c1)) (hst : (st.map fun v => v.category).sum ≤ 8) : G Φ mL_law (EP (PL9 b L B xs) Z) x cells slots pc lv (.ref (M + q) :: .ref (M + o) :: st) (hp Φ hb M sh c) := by
  refine gw_S2 oknL_areAlike d kw_649 kw_650 ⟨Nat.le_of_ble_eq_true rfl, Nat.le_of_ble_eq_true rfl⟩ ⟨by show cells + 0 ≤ 600130; omega, by show slots + 0 ≤ 7301080; omega⟩ hst (w_L_areAlike h0 h1 E ?_)
  exact k
theorem la_isSolutionSo {o : Nat} {t : Int} (h0 : sD sh o) (hc : cells ≤ 600000) (hs : slots ≤ 7000000) (d : decode mL_law.2.1 pc = .ok (.invokestatic 205, 3)) (E : f_L_isSolutionSo o c = some (t, c1)) (k : G Φ mL_law (EP (PL9 b L B xs) Z) x (cells + 0) (slots + 0) (pc + 3) lv (vI t :: st) (hp Φ hb M sh c1)) (hst : (st.map fun v => v.category).sum ≤ 8) : G Φ mL_law (EP (PL9 b L B xs) Z) x cells slots pc lv (.ref (M + o) :: st) (hp Φ hb M sh c) := by
  refine gw_S1 oknL_isSolutionSo d kw_684 kw_685 ⟨Nat.le_of_ble_eq_true rfl, Nat.le_of_ble_eq_true rfl⟩ ⟨by show cells + 0 ≤ 600130; omega, by show slots + 0 ≤ 7301080; omega⟩ hst (w_L_isSolutionSo h0 E ?_)
  exact k
theorem la_areColumnsSo {o : Nat} {t : Int} (h0 : sD sh o) (hc : cells ≤ 600000) (hs : slots ≤ 7000000) (d : decode mL_law.2.1 pc = .ok (.invokestatic 209, 3)) (E : f_L_areColumnsSo o c = some (t, c1)) (k : G Φ mL_law (EP (PL9 b L B xs) Z) x (cells + 0) (slots + 0) (pc + 3) lv (vI t :: st) (hp Φ hb M sh c1)) (hst : (st.map fun v => v.category).sum ≤ 8) : G Φ mL_law (EP (PL9 b L B xs) Z) x cells slots pc lv (.ref (M + o) :: st) (hp Φ hb M sh c) := by
  refine gw_S1 oknL_areColumnsSo d kw_732 kw_733 ⟨Nat.le_of_ble_eq_true rfl, Nat.le_of_ble_eq_true rfl⟩ ⟨by show cells + 0 ≤ 600130; omega, by show slots + 0 ≤ 7301080; omega⟩ hst (w_L_areColumnsSo h0 E ?_)
  exact k
theorem la_areBasesSo {o : Nat} {t : Int} (h0 : sD sh o) (hc : cells ≤ 600000) (hs : slots ≤ 7000000) (d : decode mL_law.2.1 pc = .ok (.invokestatic 212, 3)) (E : f_L_areBasesSo o c = some (t, c1)) (k : G Φ mL_law (EP (PL9 b L B xs) Z) x (cells + 0) (slots + 0) (pc + 3) lv (vI t :: st) (hp Φ hb M sh c1)) (hst : (st.map fun v => v.category).sum ≤ 8) : G Φ mL_law (EP (PL9 b L B xs) Z) x cells slots pc lv (.ref (M + o) :: st) (hp Φ hb M sh c) := by
  refine gw_S1 oknL_areBasesSo d kw_833 kw_834 ⟨Nat.le_of_ble_eq_true rfl, Nat.le_of_ble_eq_true rfl⟩ ⟨by show cells + 0 ≤ 600130; omega, by show slots + 0 ≤ 7301080; omega⟩ hst (w_L_areBasesSo h0 E ?_)
  exact k
theorem la_isStepSo {o q : Nat} {t : Int} (h0 : sD sh o) (h1 : sh q = some (1, 1, [])) (hc : cells ≤ 600000) (hs : slots ≤ 7000000) (d : decode mL_law.2.1 pc = .ok (.invokestatic 215, 3)) (E : f_L_isStepTo o q c = some (t, c1)) (k : G Φ mL_law (EP (PL9 b L B xs) Z) x (cells + 16) (slots + 96) (pc + 3) lv (vI t :: st) (hp Φ hb M sh c1)) (hst : (st.map fun v => v.category).sum ≤ 8) : G Φ mL_law (EP (PL9 b L B xs) Z) x cells slots pc lv (.ref (M + q) :: .ref (M + o) :: st) (hp Φ hb M sh c) := by
  refine gw_S2 oknL_isStepSo d kw_918 kw_919 ⟨Nat.le_of_ble_eq_true rfl, Nat.le_of_ble_eq_true rfl⟩ ⟨by show cells + 16 ≤ 600130; omega, by show slots + 96 ≤ 7301080; omega⟩ hst (w_L_isStepTo h0 h1 E ?_)
  exact k
theorem la_saved {o : Nat} {v : Int} (h0 : sD sh o) (hc : cells ≤ 600000) (hs : slots ≤ 7000000) (d : decode mL_law.2.1 pc = .ok (.invokevirtual 194, 3)) (E : f_X8_savedStates o c = some v) (k : G Φ mL_law (EP (PL9 b L B xs) Z) x cells slots (pc + 3) lv (vI v :: st) (hp Φ hb M sh c)) (hst : (st.map fun v => v.category).sum ≤ 8) : G Φ mL_law (EP (PL9 b L B xs) Z) x cells slots pc lv (.ref (M + o) :: st) (hp Φ hb M sh c) := by
  refine gw_V0 okX8_savedStates d kw_359 kw_360 kw_361 (hp_o h0.1) rfl ⟨Nat.le_of_ble_eq_true rfl, Nat.le_of_ble_eq_true rfl⟩ ⟨by show cells + 0 ≤ 600130; omega, by show slots + 0 ≤ 7301080; omega⟩ hst (w_X8_savedStates h0 E ?_)
  exact k
theorem la_undo {o : Nat} {v : Int} (h0 : sD sh o) (hc : cells ≤ 600000) (hs : slots ≤ 7000000) (d : decode mL_law.2.1 pc = .ok (.invokevirtual 186, 3)) (E : f_X8_undo o c = some (0, v, c1)) (k : G Φ mL_law (EP (PL9 b L B xs) Z) x cells slots (pc + 3) lv (vI v :: st) (hp Φ hb M sh c1)) (hst : (st.map fun v => v.category).sum ≤ 8) : G Φ mL_law (EP (PL9 b L B xs) Z) x cells slots pc lv (.ref (M + o) :: st) (hp Φ hb M sh c) := by
  refine gw_V0 oknX8_undo d kw_267 kw_268 kw_269 (hp_o h0.1) rfl ⟨Nat.le_of_ble_eq_true rfl, Nat.le_of_ble_eq_true rfl⟩ ⟨by show cells + 0 ≤ 600130; omega, by show slots + 0 ≤ 7301080; omega⟩ hst (n_X8_undo h0 E rfl ?_)
  exact k
end
end LA
