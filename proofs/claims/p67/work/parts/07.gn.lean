section GN
variable {Φ : gwC} {Y Y' : gwY} {E : gwE} {x : Option Nat} {cells slots pc pc' : Nat} {lv : List (Nat × Value)} {st : List Value} {h : gwHp} {n index : Nat}
/-- the heap's size is known: M at the entry, and so many cells more -/
def gw_low (h : gwHp) (M cells : Nat) : Prop := cells = 0 ∨ ∃ e, h (M + (cells - 1)) = some e
theorem gw_size {p : Program} {e : Env} {s : State} {m : MethodId} {args : Array Value} {below : List Frame} {meth : Method} {c : Code} {H : Heap} {locs : List Loc} {M : Nat} (F : gw_Fr Φ Y (some M) p s m args meth c) (hH : gw_H Φ h H) (hS : va_S (gw_A Φ.2.1) s.heap H locs) (hlow : gw_low h M cells) {T : State} (hT : T.heap = H) (X : Stand p Φ.1 e (gwRm Y) s m args below meth c T locs cells slots) : H.size = M + cells := by
  have h1 : H.size ≤ s.heap.size + cells := by rw [← hT]; exact X.heapSize
  have h2 : s.heap.size = M := F.2.2.2.2.2.2.2.2.2.2 M rfl
  have h3 : M + cells ≤ H.size := by
    rcases hlow with h0 | ⟨e9, h0⟩
    · rw [h0, Nat.add_zero, ← h2]; exact hS.1
    · have h4 : M + (cells - 1) < H.size := ((hH.one h0) 0 _ rfl).lt
      omega
  omega
theorem gw_sz {p : Program} {e : Env} {s : State} {m : MethodId} {args : Array Value} {below : List Frame} {meth : Method} {c : Code} {H : Heap} {locs : List Loc} {M : Nat} {Q : State → Prop} {g : JFrame} (F : gw_Fr Φ Y (some M) p s m args meth c) (hH : gw_H Φ h H) (hS : va_S (gw_A Φ.2.1) s.heap H locs) (hlow : gw_low h M cells) (k : H.size = M + cells → W p Φ.1 e (gwRm Y) s m args below meth c H locs cells slots Q g) : W p Φ.1 e (gwRm Y) s m args below meth c H locs cells slots Q g :=
  fun T hT X => k (gw_size F hH hS hlow hT X) T hT X
theorem gw_grow {H H1 : Heap} {q : Nat} {e : va_E} (hH : gw_H Φ h H) (hq : H.size = q) (hB : Φ.2.1 ≤ q) (o1 : ∀ z, z < q → H1[z]? = H[z]?) (hne : va_at Φ.2.2.1 vwCl (q, e) H1) : gw_H Φ (gw_up h q e) H1 := by
  obtain ⟨ws, h1, h2, h3⟩ := hH
  subst hq
  have hk : ∀ (k : Nat) (y : Nat × va_E), ws[k]? = some y → H1[y.1]? = H[y.1]? := fun k y hy => o1 y.1 ((h2 k y hy).lt)
  refine ⟨ws ++ [(H.size, e)], fun z e9 hz => ?_, (h2.kept hk).app (fun k y hy => ?_), h3.push h2 rfl hB⟩
  · unfold gw_up at hz
    by_cases hza : z = H.size
    · rw [if_pos hza] at hz
      cases hz
      subst hza
      exact List.mem_append_right _ List.mem_cons_self
    · rw [if_neg hza] at hz
      exact List.mem_append_left _ (h1 z e9 hz)
  · have hz : k < 1 := (List.getElem?_eq_some_iff.mp hy).1
    rw [show k = 0 by omega] at hy
    cases hy
    exact hne
theorem gw_new {M ci N : Nat} {C : String} {T : u_T} {ty : Nat → FieldType} (cl : gw_Cl ci C T N ty) (d : decode Y.2.1 pc = .ok (.new index, 3)) (e9 : pc + 3 = pc') (hcl : Cond.classLink Y.1.cls index C ∈ gw_W) (hinst : Cond.instantiable C N ∈ gw_W) (hini : Cond.initialized C ∈ gw_W) {fs : List Value} (hfs : ∀ j, j < N → defaultValue (ty j) = vp_V fs j) (hlow : gw_low h M cells) (hc : cells + 1 ≤ (gwRm Y).cells) (hs : slots + N ≤ (gwRm Y).slots)
    (k : G Φ Y E (some M) (cells + 1) (slots + N) pc' lv (.ref (M + cells) :: st) (gw_up h (M + cells) (.inr (ci, fs)))) : G Φ Y E (some M) cells slots pc lv st h := by
  subst e9
  intro p e s m args below meth c H locs ls F hH hS hl
  refine gw_sz F hH hS hlow (fun hz => ?_)
  have hw := F.2.2.2.2.2.2.2.2.1
  have hK := F.2.2.2.2.2.2.2.2.2.1.1
  have hBs : Φ.2.1 ≤ s.heap.size := F.2.2.2.2.2.2.2.2.2.1.2.2.2.2.2.1
  have hKn := hK.1 ci _ cl.1
  refine W.newcK F.1 F.2.1 F.2.2.2.2.2.1 (hw _ hcl) (hw _ hinst) (hw _ hini) rfl d hc hs hKn.2.1 hz (fun H1 kC hkC e1 z1 o1 => ?_)
  refine k p e s m args below meth c H1 locs ls F (gw_grow hH hz (Nat.le_trans hBs (hz ▸ hS.1)) o1 ⟨_, cl.1, (u_born ty hw cl.2.1 hKn hkC e1 cl.2.2.1).to hfs⟩) ⟨Nat.le_trans hS.1 (by omega), fun q h1 h2 => (o1 q (by have := hS.1; omega)).trans (hS.2.1 q h1 h2), hS.2.2⟩ hl
theorem gw_newI {M N' : Nat} {n : Int32} (d : decode Y.2.1 pc = .ok (.newarray .int, 2)) (e9 : pc + 2 = pc') (harr : Cond.arrayClass .int ∈ gw_W) (hn : ¬ n < 0) (hN : n.toNatClampNeg = N') (hbytes : N' * 4 ≤ 536870912) (hlow : gw_low h M cells) (hc : cells + 1 ≤ (gwRm Y).cells) (hs : slots + N' ≤ (gwRm Y).slots)
    (k : G Φ Y E (some M) (cells + 1) (slots + N') pc' lv (.ref (M + cells) :: st) (gw_up h (M + cells) (gwI Φ N' (fun _ => 0)))) : G Φ Y E (some M) cells slots pc lv (.int n :: st) h := by
  subst e9
  intro p e s m args below meth c H locs ls F hH hS hl
  refine gw_sz F hH hS hlow (fun hz => ?_)
  have hw := F.2.2.2.2.2.2.2.2.1
  have hK := F.2.2.2.2.2.2.2.2.2.1.1
  have hBs : Φ.2.1 ≤ s.heap.size := F.2.2.2.2.2.2.2.2.2.1.2.2.2.2.2.1
  refine va_newaK (atype := .int) F.1 F.2.1 (hw _ harr) rfl d rfl hn hN hbytes hc hs hz (fun H1 cA e1 z1 o1 hAr hfc => ?_)
  have hcA : Φ.2.2.2.1 = cA := Option.some.inj ((hK.2 0 _ rfl).2.symm.trans hfc)
  refine k p e s m args below meth c H1 locs ls F (gw_grow hH hz (Nat.le_trans hBs (hz ▸ hS.1)) o1 (by rw [show gwI Φ N' (fun _ => 0) = .inl (cA, N', .inl (fun _ => 0)) by rw [← hcA]]; exact e1)) ⟨Nat.le_trans hS.1 (by omega), fun q h1 h2 => (o1 q (by have := hS.1; omega)).trans (hS.2.1 q h1 h2), hS.2.2⟩ hl
theorem gw_newL {M N' : Nat} {n : Int32} (d : decode Y.2.1 pc = .ok (.newarray .long, 2)) (e9 : pc + 2 = pc') (harr : Cond.arrayClass .long ∈ gw_W) (hn : ¬ n < 0) (hN : n.toNatClampNeg = N') (hbytes : N' * 8 ≤ 536870912) (hlow : gw_low h M cells) (hc : cells + 1 ≤ (gwRm Y).cells) (hs : slots + N' ≤ (gwRm Y).slots)
    (k : G Φ Y E (some M) (cells + 1) (slots + N') pc' lv (.ref (M + cells) :: st) (gw_up h (M + cells) (gwL Φ N' (fun _ => 0)))) : G Φ Y E (some M) cells slots pc lv (.int n :: st) h := by
  subst e9
  intro p e s m args below meth c H locs ls F hH hS hl
  refine gw_sz F hH hS hlow (fun hz => ?_)
  have hw := F.2.2.2.2.2.2.2.2.1
  have hK := F.2.2.2.2.2.2.2.2.2.1.1
  have hBs : Φ.2.1 ≤ s.heap.size := F.2.2.2.2.2.2.2.2.2.1.2.2.2.2.2.1
  refine va_newaK (atype := .long) F.1 F.2.1 (hw _ harr) rfl d rfl hn hN hbytes hc hs hz (fun H1 cA e1 z1 o1 hAr hfc => ?_)
  have hcA : Φ.2.2.2.2.1 = cA := Option.some.inj ((hK.2 1 _ rfl).2.symm.trans hfc)
  refine k p e s m args below meth c H1 locs ls F (gw_grow hH hz (Nat.le_trans hBs (hz ▸ hS.1)) o1 (by rw [show gwL Φ N' (fun _ => 0) = .inl (cA, N', .inr (.inl (fun _ => 0))) by rw [← hcA]]; exact e1)) ⟨Nat.le_trans hS.1 (by omega), fun q h1 h2 => (o1 q (by have := hS.1; omega)).trans (hS.2.1 q h1 h2), hS.2.2⟩ hl
theorem gw_newR {M N' : Nat} {n : Int32} (d : decode Y.2.1 pc = .ok (.anewarray index, 3)) (e9 : pc + 3 = pc') (hcl : Cond.classLink Y.1.cls index RX4 ∈ gw_W) (hover : Cond.arrayOver (.object RX4) ∈ gw_NW) (hn : ¬ n < 0) (hN : n.toNatClampNeg = N') (hbytes : N' * 4 ≤ 536870912) (hlow : gw_low h M cells) (hc : cells + 1 ≤ (gwRm Y).cells) (hs : slots + N' ≤ (gwRm Y).slots)
    (k : G Φ Y E (some M) (cells + 1) (slots + N') pc' lv (.ref (M + cells) :: st) (gw_up h (M + cells) (gwR Φ N' (fun _ => none)))) : G Φ Y E (some M) cells slots pc lv (.int n :: st) h := by
  subst e9
  subst hN
  intro p e s m args below meth c H locs ls F hH hS hl
  refine gw_sz F hH hS hlow (fun hz => ?_)
  have hw := F.2.2.2.2.2.2.2.2.1
  have hK := F.2.2.2.2.2.2.2.2.2.1.1
  have hBs : Φ.2.1 ≤ s.heap.size := F.2.2.2.2.2.2.2.2.2.1.2.2.2.2.2.1
  refine W.anew F.1 F.2.1 F.2.2.2.2.2.1 (hw _ hcl) (va_AO.use (F.2.2.2.2.2.2.2.2.2.1.2.2.2.2.2.2.2 _ hover)) rfl d rfl hn hbytes hc hs (fun cA kA comp f1 f2 f3 f4 => ?_)
  have hcA : Φ.2.2.2.2.2 = cA := by
    obtain ⟨-, kA9, comp9, -, -, -, q4⟩ := hK.2 2 _ rfl
    exact Option.some.inj (q4.symm.trans f1)
  generalize hH1 : H.push ({ cls := cA, slots := Array.replicate n.toNatClampNeg .null, vm := .none } : Cell) = H1
  have z1 : H1.size = H.size + 1 := by rw [← hH1, Array.size_push]
  have e1 : H1[H.size]? = some (arrV cA n.toNatClampNeg (fun _ => .null)) := by rw [← hH1, Array.getElem?_push_size, ← arrV_new]
  have o1 : ∀ q : Nat, q < M + cells → H1[q]? = H[q]? := fun q hq => by rw [← hH1, Array.getElem?_push, if_neg (by omega)]
  rw [hz] at e1
  show W p Φ.1 e (gwRm Y) s m args below meth c H1 locs (cells + 1) _ (E below args s) (F0 m (pc + 3) ls (.ref H.size :: st))
  rw [hz]
  refine k p e s m args below meth c H1 locs ls F (gw_grow hH hz (Nat.le_trans hBs (hz ▸ hS.1)) o1 (by rw [show gwR Φ n.toNatClampNeg (fun _ => none) = .inl (cA, n.toNatClampNeg, .inr (.inr (.inr (.inr (fun _ => none))))) by rw [← hcA]]; exact e1)) ⟨Nat.le_trans hS.1 (by omega), fun q h1 h2 => (o1 q (by have := hS.1; omega)).trans (hS.2.1 q h1 h2), hS.2.2⟩ hl
/-- Object.<init> -/
theorem gw_obj {a : Nat} (d : decode Y.2.1 pc = .ok (.invokespecial index, 3)) (e9 : pc + 3 = pc') (hl0 : Cond.methodLink Y.1.cls index objectInit ∈ gw_W) (hi : Cond.instanceMethod objectInit ∈ gw_W) (hco : Cond.code objectInit ⟨#[0xb1]⟩ 1 none ∈ gw_W) (hfr : 1 ≤ (gwRm Y).frames) (hlo : (st.map fun v => v.category).sum + 12 ≤ (gwRm Y).locals) (k : G Φ Y E x cells slots pc' lv st h) : G Φ Y E x cells slots pc lv (.ref a :: st) h := by
  subst e9
  intro p e s m args below meth c H locs ls F hH hS hl
  have hw := F.2.2.2.2.2.2.2.2.1
  have h0 : (F0 m pc ls (.ref a :: st)).monitorRoom = 0 := rfl
  exact W.objInit F.1 F.2.1 F.2.2.2.2.2.1 (hw _ hl0) (hw _ hi) (hw _ hco) rfl (hl.1.trans F.2.2.1.symm) rfl d hfr (by rw [h0]; show 2 * 0 + _ + 12 ≤ (gwRm Y).locals; omega) (k p e s m args below meth c H locs ls F hH hS hl)
theorem gw_callI {M : Nat} {x' : Option Nat} (hx : x = none ∧ x' = none ∨ x = some M ∧ x' = some (M + cells) ∧ gw_low h M cells) (ok : gw_ok Y' n) (hr : Y'.2.2.2.1 = none) (d : decode Y.2.1 pc = .ok (.invokespecial index, 3)) (hl0 : Cond.methodLink Y.1.cls index Y'.1 ∈ gw_W) (hi : Cond.instanceMethod Y'.1 ∈ gw_W) (hnm : Y'.1.name = "<init>") {b : Nat} (As rest : List Value) (hn : As.length = n) (hR : gw_fit Y Y') (hf : cells + (gwRm Y').cells ≤ (gwRm Y).cells ∧ slots + (gwRm Y').slots ≤ (gwRm Y).slots) (hW : (rest.map fun v => v.category).sum ≤ 8)
    (hM : gw_Con Φ Y' x' (.ref b :: As) h (fun v h' => G Φ Y E x (cells + (gwRm Y').cells) (slots + (gwRm Y').slots) (pc + 3) lv (gw_psh v rest) h')) : G Φ Y E x cells slots pc lv (As.reverse ++ .ref b :: rest) h := by
  intro p e s m args below meth c H locs ls F hH hS hl T hT X
  have hw := F.2.2.2.2.2.2.2.2.1
  have hx' : ∀ N, x' = some N → H.size = N := by
    rcases hx with ⟨-, rfl⟩ | ⟨rfl, rfl, hlow⟩
    · exact fun _ z => nomatch z
    · intro N hN
      cases hN
      exact gw_size F hH hS hlow hT X
  have okc := ok.2.1
  rw [hr] at okc
  have hM' := hM
  unfold gw_Con gw_ws at hM'
  rw [hr] at hM'
  exact gw_run F hS hl (va_runI (As := As) (rest := rest) ⟨F.1, F.2.1, F.2.2.1, F.2.2.2.2.2.1, hw⟩ hM' (cwI n hw (gw_good (gw_cons okc (fun _ z => z))) rfl rfl rfl (hw _ ok.2.2.1) (hw _ hl0) (hw _ hi) hnm ok.2.2.2.1 hR) ⟨gw_blind, gw_pre F hH hS hx'⟩ rfl hn hl.1 rfl (gw_room hW) d hf) T hT X
/-- a nest mate's private constructor -/
theorem gw_callIN {host : String} {M : Nat} {x' : Option Nat} (hx : x = none ∧ x' = none ∨ x = some M ∧ x' = some (M + cells) ∧ gw_low h M cells) (ok : gw_ok Y' n) (hr : Y'.2.2.2.1 = none) (d : decode Y.2.1 pc = .ok (.invokespecial index, 3)) (hl0 : Cond.methodLinkNest Y.1.cls index Y'.1 host ∈ gw_NW) (hi : Cond.instanceMethod Y'.1 ∈ gw_W) (hnm : Y'.1.name = "<init>") {b : Nat} (As rest : List Value) (hn : As.length = n) (hR : gw_fit Y Y') (hf : cells + (gwRm Y').cells ≤ (gwRm Y).cells ∧ slots + (gwRm Y').slots ≤ (gwRm Y).slots) (hW : (rest.map fun v => v.category).sum ≤ 8)
    (hM : gw_Con Φ Y' x' (.ref b :: As) h (fun v h' => G Φ Y E x (cells + (gwRm Y').cells) (slots + (gwRm Y').slots) (pc + 3) lv (gw_psh v rest) h')) : G Φ Y E x cells slots pc lv (As.reverse ++ .ref b :: rest) h := by
  intro p e s m args below meth c H locs ls F hH hS hl T hT X
  have hw := F.2.2.2.2.2.2.2.2.1
  have hx' : ∀ N, x' = some N → H.size = N := by
    rcases hx with ⟨-, rfl⟩ | ⟨rfl, rfl, hlow⟩
    · exact fun _ z => nomatch z
    · intro N hN
      cases hN
      exact gw_size F hH hS hlow hT X
  have okc := ok.2.1
  rw [hr] at okc
  have hM' := hM
  unfold gw_Con gw_ws at hM'
  rw [hr] at hM'
  exact gw_run F hS hl (va_runIN (As := As) (rest := rest) ⟨F.1, F.2.1, F.2.2.1, F.2.2.2.2.2.1, hw⟩ hM' ⟨va_cnB (args := args) n hw (gw_good (gw_cons okc (fun _ z => z))) rfl rfl rfl (F.2.2.2.2.2.2.2.2.2.1.2.2.2.2.2.2.2 _ hl0) (hw _ ok.2.2.1) ok.2.2.2.1 hR, hnm, hw _ hi⟩ ⟨gw_blind, gw_pre F hH hS hx'⟩ rfl hn hl.1 rfl (gw_room hW) d hf) T hT X
end GN
