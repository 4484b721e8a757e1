section GL
variable {Φ : gwC} {Y Y' : gwY} {E : gwE} {x : Option Nat} {cells slots pc pc' : Nat} {lv lv' : List (Nat × Value)} {st : List Value} {h h' : gwHp}
def lvA (lv : List (Nat × Value)) : List (Nat × Value) → Prop
  | [] => True
  | q :: r => lvG lv q.1 = some q.2 ∧ lvA lv r
theorem lvA_all {lv : List (Nat × Value)} : ∀ {l : List (Nat × Value)}, lvA lv l → ∀ q ∈ l, lvG lv q.1 = some q.2
  | [], _, _, hq => nomatch hq
  | _ :: _, ⟨h1, h2⟩, q, hq => by
    rcases List.mem_cons.mp hq with rfl | hq
    · exact h1
    · exact lvA_all h2 q hq
theorem lvA_n {lv : List (Nat × Value)} : lvA lv [] := trivial
theorem lvA_c {lv r : List (Nat × Value)} {i : Nat} {v : Value} (h : lvG lv i = some v) (t : lvA lv r) : lvA lv ((i, v) :: r) := ⟨h, t⟩
theorem gw_L (kk : G Φ Y E x cells slots pc lv' st h) (hs : lvA lv lv') : G Φ Y E x cells slots pc lv st h := gw_L9 (lvA_all hs) kk
theorem gw_Heq (e : h = h') (kk : G Φ Y E x cells slots pc lv st h') : G Φ Y E x cells slots pc lv st h := e ▸ kk
theorem gw_uu {h : gwHp} {a : Nat} {e e' : va_E} : gw_up (gw_up h a e) a e' = gw_up h a e' := by
  funext q
  unfold gw_up
  by_cases hq : q = a
  · rw [if_pos hq, if_pos hq]
  · rw [if_neg hq, if_neg hq, if_neg hq]
theorem gw_id {h : gwHp} {a : Nat} {e : va_E} (ha : h a = some e) : gw_up h a e = h := by
  funext q
  unfold gw_up
  by_cases hq : q = a
  · rw [if_pos hq, hq, ha]
  · rw [if_neg hq]
theorem gw_alenI {a n : Nat} {F : Int → Int} (d : decode Y.2.1 pc = .ok (.arraylength, 1)) (e9 : pc + 1 = pc') (hh : h a = some (gwIz Φ n F)) (k : G Φ Y E x cells slots pc' lv (vI n :: st) h) : G Φ Y E x cells slots pc lv (.ref a :: st) h := gw_alen 0 rfl d e9 hh (Int32.ofInt_eq_ofNat).symm k
theorem gw_alenL {a n : Nat} {F : Int → Int} (d : decode Y.2.1 pc = .ok (.arraylength, 1)) (e9 : pc + 1 = pc') (hh : h a = some (gwLz Φ n F)) (k : G Φ Y E x cells slots pc' lv (vI n :: st) h) : G Φ Y E x cells slots pc lv (.ref a :: st) h := gw_alen 1 rfl d e9 hh (Int32.ofInt_eq_ofNat).symm k
theorem gw_alenR {a n : Nat} {f : Nat → Option Nat} (d : decode Y.2.1 pc = .ok (.arraylength, 1)) (e9 : pc + 1 = pc') (hh : h a = some (gwR Φ n f)) (k : G Φ Y E x cells slots pc' lv (vI n :: st) h) : G Φ Y E x cells slots pc lv (.ref a :: st) h := gw_alen 2 rfl d e9 hh (Int32.ofInt_eq_ofNat).symm k
/-- rows of longs that agree in their places are one -/
theorem gw_same {a n : Nat} {f g : Nat → Int64} (hfg : ∀ j, j < n → f j = g j) (kk : G Φ Y E x cells slots pc lv st (gw_up h a (gwL Φ n g))) : G Φ Y E x cells slots pc lv st (gw_up h a (gwL Φ n f)) := by
  intro p e s m args below meth c H locs ls F hH hS hl
  refine kk p e s m args below meth c H locs ls F ?_ hS hl
  obtain ⟨ws, h1, h2, h3⟩ := hH
  have hc : vp_cell Φ.2.2.2.2.1 (n, .inr (.inl f)) = vp_cell Φ.2.2.2.2.1 (n, .inr (.inl g)) := by
    show arrV _ n (fun j => .long (f j)) = arrV _ n (fun j => .long (g j))
    have e : (fun j : Fin n => Value.long (f j.val)) = fun j : Fin n => Value.long (g j.val) := funext fun j => by rw [hfg j.val j.isLt]
    unfold arrV
    rw [e]
  obtain ⟨k, hk⟩ := List.getElem?_of_mem (h1 a _ gw_us)
  have hat := h2 k _ hk
  have hat2 : va_at Φ.2.2.1 vwCl (a, gwL Φ n g) H := by
    show H[a]? = some (vp_cell Φ.2.2.2.2.1 (n, .inr (.inl g)))
    rw [← hc]
    exact hat
  have hset : ∀ (j : Nat) (q : Nat × va_E), (ws.set k (a, gwL Φ n g))[j]? = some q → (j = k ∧ q = (a, gwL Φ n g)) ∨ (j ≠ k ∧ ws[j]? = some q) := by
    intro j q hj
    by_cases hjk : j = k
    · subst hjk
      have hlt : j < ws.length := (List.getElem?_eq_some_iff.mp hk).1
      rw [List.getElem?_set_self hlt] at hj
      exact Or.inl ⟨rfl, (Option.some.inj hj).symm⟩
    · rw [List.getElem?_set_ne (Ne.symm hjk)] at hj
      exact Or.inr ⟨hjk, hj⟩
  have hP : va_P Φ.2.2.1 vwCl (ws.set k (a, gwL Φ n g)) H := by
    intro j q hj
    rcases hset j q hj with ⟨-, rfl⟩ | ⟨-, hj⟩
    · exact hat2
    · exact h2 j q hj
  have h1' : ∀ q e9, gw_up h a (gwL Φ n f) q = some e9 → (q, e9) ∈ ws := h1
  have hz := gw_H.sup (h := gw_up h a (gwL Φ n f)) (e' := gwL Φ n g) h3 h1' hk hP (h3.set hk)
  rw [gw_uu] at hz
  exact hz
theorem i32_nat {n : Nat} (hn : n ≤ 2000000000) : (i32 (n : Int)).toNatClampNeg = n := by
  have h1 := i32_t (z := (n : Int)) ⟨by omega, by omega⟩
  have h2 : (i32 (n : Int)).toNatClampNeg = (i32 (n : Int)).toInt.toNat := rfl
  rw [h2, h1]
  omega
theorem gw_copyZ {a a0 n index : Nat} {F G9 : Int → Int} (d : decode Y.2.1 pc = .ok (.invokestatic index, 3)) (e9 : pc + 3 = pc') (hl0 : Cond.methodLink Y.1.cls index arraycopyName ∈ gw_W) (hnat : Cond.native arraycopyName ∈ gw_W) (hstt : Cond.static arraycopyName ∈ gw_W) (hini : Cond.initialized "java/lang/System" ∈ gw_W)
    (hh0 : h a0 = some (gwLz Φ n F)) (hh : h a = some (gwLz Φ n G9)) (hn : n ≤ 2000000000) (hfr : 1 ≤ Y.2.2.2.2.1.frames) (hlo : (st.map fun v => v.category).sum + (nativeFrameWords "java/lang/System" "arraycopy" 5 + 11) ≤ Y.2.2.2.2.1.locals)
    (k : G Φ Y E x cells slots pc' lv st (gw_up h a (gwLz Φ n F))) : G Φ Y E x cells slots pc lv (vI n :: vI 0 :: .ref a :: vI 0 :: .ref a0 :: st) h := by
  have e0 : (i32 0).toNatClampNeg = 0 := rfl
  have en := i32_nat hn
  refine gw_copyl d e9 hl0 hnat hstt hini hh0 hh (by decide) (by decide) (fun z => ?_) (by rw [e0, en]; omega) (by rw [e0, en]; omega) hfr hlo ?_
  · rw [i32_0, i32_lt ⟨by omega, by omega⟩ ⟨by omega, by omega⟩] at z
    omega
  · rw [e0, en]
    refine gw_same (g := fun j => i64 (F (j : Int))) (fun j hj => ?_) k
    show (if 0 ≤ j ∧ j < 0 + n then i64 (F ((0 + (j - 0) : Nat) : Int)) else _) = _
    rw [if_pos ⟨by omega, by omega⟩]
    simp
end GL
