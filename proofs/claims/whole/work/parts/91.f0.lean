section CF
abbrev mL_law : gwY := (yL_law, cL_law, 9, (Option.some Jvm.ClassFile.FieldType.boolean), room_1, [])
/-- what the walk of the law ends in, if its script stands -/
def E9 (Z : gwE) (b L : Nat) (xs : Nat → Int32) (B : Nat) : gwE := fun below args s t => (args = #[Value.ref b] ∧ va_X b L xs s s.heap ∧ b < s.heap.size ∧ s.heap.size = B) → Z below args s t
def SA (xs : Nat → Int32) (j : Int) : Int := (xs j.toNat).toInt
abbrev lvL (M b : Nat) (i : Int) : List (Nat × Value) := [(0, .ref b), (1, .ref (M + 0)), (2, .ref (M + 105)), (3, .ref (M + 120)), (4, vI i)]
section
variable {Φ : gwC} {Y : gwY} {Z : gwE} {b L B : Nat} {xs : Nat → Int32} {x : Option Nat} {cells slots pc pc' : Nat} {lv : List (Nat × Value)} {st : List Value} {h : gwHp}
theorem gl_sld {i : Int32} (hB : Φ.2.1 = B) (hin : vp_in i L) (d : decode Y.2.1 pc = .ok (.iaload, 1)) (e9 : pc + 1 = pc') (k : G Φ Y (E9 Z b L xs B) x cells slots pc' lv (.int (xs i.toNatClampNeg) :: st) h) : G Φ Y (E9 Z b L xs B) x cells slots pc lv (.int i :: .ref b :: st) h := by
  subst e9
  intro p e s m args below meth c H locs ls F hH hS hl
  by_cases hP : args = #[Value.ref b] ∧ va_X b L xs s s.heap ∧ b < s.heap.size ∧ s.heap.size = B
  · exact va_sld F.1 F.2.1 hP.2.1 hP.2.2.1 (show ¬ Φ.2.1 ≤ b by have := hP.2.2; omega) hS hin d (k p e s m args below meth c H locs ls F hH hS hl)
  · exact fun T hT X => ⟨_, Steps.refl _, fun h => absurd h hP⟩
theorem gl_slen (hB : Φ.2.1 = B) (d : decode Y.2.1 pc = .ok (.arraylength, 1)) (e9 : pc + 1 = pc') (k : G Φ Y (E9 Z b L xs B) x cells slots pc' lv (.int (Int32.ofNat L) :: st) h) : G Φ Y (E9 Z b L xs B) x cells slots pc lv (.ref b :: st) h := by
  subst e9
  intro p e s m args below meth c H locs ls F hH hS hl
  by_cases hP : args = #[Value.ref b] ∧ va_X b L xs s s.heap ∧ b < s.heap.size ∧ s.heap.size = B
  · exact va_slen F.1 F.2.1 hP.2.1 hP.2.2.1 (show ¬ Φ.2.1 ≤ b by have := hP.2.2; omega) hS d (k p e s m args below meth c H locs ls F hH hS hl)
  · exact fun T hT X => ⟨_, Steps.refl _, fun h => absurd h hP⟩
theorem gl_sldZ {j : Int} (hB : Φ.2.1 = B) (hi : 0 ≤ j ∧ j < (L : Int)) (hL : L ≤ 2048) (d : decode Y.2.1 pc = .ok (.iaload, 1)) (e9 : pc + 1 = pc') (k : G Φ Y (E9 Z b L xs B) x cells slots pc' lv (vI (SA xs j) :: st) h) : G Φ Y (E9 Z b L xs B) x cells slots pc lv (vI j :: .ref b :: st) h := by
  refine gl_sld hB (i32_in hi (by omega)) d e9 ?_
  have e := i32_nn hi (show L ≤ 2000000000 by omega)
  rw [show (i32 j).toNatClampNeg = j.toNat by omega, i32_o (xs j.toNat)]
  exact k
theorem gl_slenZ (hB : Φ.2.1 = B) (d : decode Y.2.1 pc = .ok (.arraylength, 1)) (e9 : pc + 1 = pc') (k : G Φ Y (E9 Z b L xs B) x cells slots pc' lv (vI L :: st) h) : G Φ Y (E9 Z b L xs B) x cells slots pc lv (.ref b :: st) h := gl_slen hB d e9 (by
  rw [← Int32.ofInt_eq_ofNat]
  exact k)
theorem and63 (y : Int32) : 0 ≤ (y &&& 63).toInt ∧ (y &&& 63).toInt ≤ 63 := by
  have h1 : (y &&& 63).toBitVec.toNat ≤ 63 := by
    rw [Int32.toBitVec_and, BitVec.toNat_and]
    exact Nat.and_le_right
  have h2 : (y &&& 63).toInt = ((y &&& 63).toBitVec.toNat : Int) := BitVec.toInt_eq_toNat_of_lt (by omega)
  omega
theorem gl_table {E : gwE} {y : Int32} {dflt : Int} {offs : Array Int} {len : Nat} {tg : Nat → Nat} (hy : 0 ≤ y.toInt ∧ y.toInt ≤ 63) (d : decode Y.2.1 pc = .ok (.tableswitch dflt 0 63 offs, len)) (ht : ∀ j, j < 64 → offs[j]? = some ((tg j : Int) - (pc : Int))) (k : ∀ j, j < 64 → G Φ Y E x cells slots (tg j) lv st h) : G Φ Y E x cells slots pc lv (.int y :: st) h := by
  intro p e s m args below meth c H locs ls F hH hS hl
  have hj : y.toInt.toNat < 64 := by omega
  exact lv_tableIn (off := (tg y.toInt.toNat : Int) - (pc : Int)) F.1 F.2.1 d (by omega) (by omega) (by rw [show (y.toInt - 0).toNat = y.toInt.toNat by omega]; exact ht _ hj) (by omega) (k _ hj p e s m args below meth c H locs ls F hH hS hl)
end
section
variable {z : St} {c c1 : W0} {F : Int → Int}
theorem W_c (h : FrD 0 c c1) (hM : MI 105 z c) : MI 105 z c1 := MI_fr hM (fun q a b => h q (Or.inr (by omega)))
theorem W_o (hC : CI 0 z c) : CI 0 z (upc c 120 F) := CI_fr hC (fun q a b => upc_n (by omega))
theorem W_oM (hM : MI 105 z c) : MI 105 z (upc c 120 F) := MI_fr hM (fun q a b => upc_n (by omega))
theorem W_m (h : FrM 105 c c1) (hC : CI 0 z c) : CI 0 z c1 := CI_fr hC (fun q a b => h q (Or.inl (by omega)))
end
theorem thr9 {m : Nat} {c : W0} {t : Int} (h : c m 0 = t) : f_X9_thrown m c = some t := congrArg some h
theorem gs_laldE {Φ : gwC} {Y : gwY} {E : gwE} {x : Option Nat} {cells slots pc pc' : Nat} {lv : List (Nat × Value)} {st : List Value} {hb : gwHp} {M q n : Nat} {sh : Nat → Option gSh} {c : W0} {i v : Int} (d : decode Y.2.1 pc = .ok (.laload, 1)) (e9 : pc + 1 = pc') (hs : sh q = some (2, n, [])) (hi : 0 ≤ i ∧ i < (n : Int)) (hn : n ≤ 2000000000) (hv : c q i = v) (k : G Φ Y E x cells slots pc' lv (vL v :: st) (hp Φ hb M sh c)) : G Φ Y E x cells slots pc lv (vI i :: .ref (M + q) :: st) (hp Φ hb M sh c) := gs_laldZ d e9 hs hi hn (by rw [hv]; exact k)
/-- what comes after a call -/
def LK (Φ : gwC) (hb : gwHp) (M b L : Nat) (xs : Nat → Int32) (Z : gwE) (B : Nat) (x : Option Nat) (i K : Int) (cells slots : Nat) : Prop := ∀ (z' : St) (c' : W0) (cells' slots' : Nat) (lv' : List (Nat × Value)), LI (K + 50) z' → CI 0 z' c' → MI 105 z' c' → cells' ≤ cells + 20 → slots' ≤ slots + 100 → lvA lv' (lvL M b i) → G Φ mL_law (E9 Z b L xs B) x cells' slots' 2881 lv' [] (hp Φ hb M shA c')
end CF
