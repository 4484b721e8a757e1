section MZ
variable {Φ : gwC} {Y : gwY} {E : gwE} {x : Option Nat} {cells slots pc pc' : Nat} {lv lv' : List (Nat × Value)} {st : List Value} {h : gwHp}
theorem gw_mabsZ {index : Nat} {a9 : Int} (d : decode Y.2.1 pc = .ok (.invokestatic index, 3)) (e9 : pc + 3 = pc') (hl0 : Cond.methodLink Y.1.cls index Lib.Math.abs.name ∈ gw_W) (hstt : Cond.static Lib.Math.abs.name ∈ gw_W) (hini : Cond.initialized "java/lang/Math" ∈ gw_W) (hco : Cond.code Lib.Math.abs.name Lib.Math.abs.code 1 (some .int) ∈ gw_W) (hfr : 1 ≤ Y.2.2.2.2.1.frames) (hlo : (st.map fun v => v.category).sum + 13 ≤ Y.2.2.2.2.1.locals) (hc : cells ≤ Y.2.2.2.2.1.cells) (hs : slots ≤ Y.2.2.2.2.1.slots) (h0 : R32 a9) (k : G Φ Y E x cells slots pc' lv (vI (if 0 ≤ a9 then a9 else -a9) :: st) h) : G Φ Y E x cells slots pc lv (vI a9 :: st) h := gw_mabs d e9 hl0 hstt hini hco hfr hlo hc hs (by
  rw [show (if 0 ≤ i32 a9 then i32 a9 else 0 - i32 a9) = i32 (if 0 ≤ a9 then a9 else -a9) by
    have e : (0 ≤ i32 a9) ↔ 0 ≤ a9 := i32_le (x := 0) ⟨by omega, by omega⟩ h0
    by_cases hh : 0 ≤ a9
    · rw [if_pos (e.mpr hh), if_pos hh]
    · rw [if_neg (fun z => hh (e.mp z)), if_neg hh, i32_0, i32_s, show 0 - a9 = -a9 by omega]]
  exact k)
theorem gw_mabslZ {index : Nat} {a9 : Int} (d : decode Y.2.1 pc = .ok (.invokestatic index, 3)) (e9 : pc + 3 = pc') (hl0 : Cond.methodLink Y.1.cls index Lib.MathLoose.abs_long.x ∈ gw_W) (hstt : Cond.static Lib.MathLoose.abs_long.x ∈ gw_W) (hini : Cond.initialized "java/lang/Math" ∈ gw_W) (hco : Cond.code Lib.MathLoose.abs_long.x Lib.MathLoose.abs_long.code 2 (some .long) ∈ gw_W) (hfr : 1 ≤ Y.2.2.2.2.1.frames) (hlo : (st.map fun v => v.category).sum + 13 ≤ Y.2.2.2.2.1.locals) (hc : cells ≤ Y.2.2.2.2.1.cells) (hs : slots ≤ Y.2.2.2.2.1.slots) (h0 : R64 a9) (k : G Φ Y E x cells slots pc' lv (vL (if 0 < a9 then a9 else -a9) :: st) h) : G Φ Y E x cells slots pc lv (vL a9 :: st) h := gw_mabsl d e9 hl0 hstt hini hco hfr hlo hc hs (by
  rw [show (if 0 < i64 a9 then i64 a9 else -i64 a9) = i64 (if 0 < a9 then a9 else -a9) by
    have e : (0 < i64 a9) ↔ 0 < a9 := i64_lt (x := 0) ⟨by omega, by omega⟩ h0
    by_cases hh : 0 < a9
    · rw [if_pos (e.mpr hh), if_pos hh]
    · rw [if_neg (fun z => hh (e.mp z)), if_neg hh, i64_n]]
  exact k)
theorem gw_mmaxZ {index : Nat} {a9 b9 : Int} (d : decode Y.2.1 pc = .ok (.invokestatic index, 3)) (e9 : pc + 3 = pc') (hl0 : Cond.methodLink Y.1.cls index Lib.Math.max.name ∈ gw_W) (hstt : Cond.static Lib.Math.max.name ∈ gw_W) (hini : Cond.initialized "java/lang/Math" ∈ gw_W) (hco : Cond.code Lib.Math.max.name Lib.Math.max.code 2 (some .int) ∈ gw_W) (hfr : 1 ≤ Y.2.2.2.2.1.frames) (hlo : (st.map fun v => v.category).sum + 13 ≤ Y.2.2.2.2.1.locals) (hc : cells ≤ Y.2.2.2.2.1.cells) (hs : slots ≤ Y.2.2.2.2.1.slots) (h0 : R32 a9) (h1 : R32 b9) (k : G Φ Y E x cells slots pc' lv (vI (if a9 < b9 then b9 else a9) :: st) h) : G Φ Y E x cells slots pc lv (vI b9 :: vI a9 :: st) h := gw_mmax d e9 hl0 hstt hini hco hfr hlo hc hs (by
  rw [show (if i32 a9 < i32 b9 then i32 b9 else i32 a9) = i32 (if a9 < b9 then b9 else a9) by
    have e : (i32 a9 < i32 b9) ↔ a9 < b9 := i32_lt h0 h1
    by_cases hh : a9 < b9
    · rw [if_pos (e.mpr hh), if_pos hh]
    · rw [if_neg (fun z => hh (e.mp z)), if_neg hh]]
  exact k)
theorem gw_mminZ {index : Nat} {a9 b9 : Int} (d : decode Y.2.1 pc = .ok (.invokestatic index, 3)) (e9 : pc + 3 = pc') (hl0 : Cond.methodLink Y.1.cls index Lib.Math.min.name ∈ gw_W) (hstt : Cond.static Lib.Math.min.name ∈ gw_W) (hini : Cond.initialized "java/lang/Math" ∈ gw_W) (hco : Cond.code Lib.Math.min.name Lib.Math.min.code 2 (some .int) ∈ gw_W) (hfr : 1 ≤ Y.2.2.2.2.1.frames) (hlo : (st.map fun v => v.category).sum + 13 ≤ Y.2.2.2.2.1.locals) (hc : cells ≤ Y.2.2.2.2.1.cells) (hs : slots ≤ Y.2.2.2.2.1.slots) (h0 : R32 a9) (h1 : R32 b9) (k : G Φ Y E x cells slots pc' lv (vI (if b9 < a9 then b9 else a9) :: st) h) : G Φ Y E x cells slots pc lv (vI b9 :: vI a9 :: st) h := gw_mmin d e9 hl0 hstt hini hco hfr hlo hc hs (by
  rw [show (if i32 b9 < i32 a9 then i32 b9 else i32 a9) = i32 (if b9 < a9 then b9 else a9) by
    have e : (i32 b9 < i32 a9) ↔ b9 < a9 := i32_lt h1 h0
    by_cases hh : b9 < a9
    · rw [if_pos (e.mpr hh), if_pos hh]
    · rw [if_neg (fun z => hh (e.mp z)), if_neg hh]]
  exact k)
theorem gw_mminlZ {index : Nat} {a9 b9 : Int} (d : decode Y.2.1 pc = .ok (.invokestatic index, 3)) (e9 : pc + 3 = pc') (hl0 : Cond.methodLink Y.1.cls index Lib.MathLoose.min_long.x ∈ gw_W) (hstt : Cond.static Lib.MathLoose.min_long.x ∈ gw_W) (hini : Cond.initialized "java/lang/Math" ∈ gw_W) (hco : Cond.code Lib.MathLoose.min_long.x Lib.MathLoose.min_long.code 4 (some .long) ∈ gw_W) (hfr : 1 ≤ Y.2.2.2.2.1.frames) (hlo : (st.map fun v => v.category).sum + 15 ≤ Y.2.2.2.2.1.locals) (hc : cells ≤ Y.2.2.2.2.1.cells) (hs : slots ≤ Y.2.2.2.2.1.slots) (h0 : R64 a9) (h1 : R64 b9) (k : G Φ Y E x cells slots pc' lv (vL (if b9 < a9 then b9 else a9) :: st) h) : G Φ Y E x cells slots pc lv (vL b9 :: vL a9 :: st) h := gw_mminl d e9 hl0 hstt hini hco hfr hlo hc hs (by
  rw [show (if i64 b9 < i64 a9 then i64 b9 else i64 a9) = i64 (if b9 < a9 then b9 else a9) by
    have e : (i64 b9 < i64 a9) ↔ b9 < a9 := i64_lt h1 h0
    by_cases hh : b9 < a9
    · rw [if_pos (e.mpr hh), if_pos hh]
    · rw [if_neg (fun z => hh (e.mp z)), if_neg hh]]
  exact k)
end MZ
section FN
abbrev W0 : Type := Nat → Int → Int
def LF : Nat := 3000
noncomputable def gd {α : Type} (P : Prop) (x : Option α) : Option α := @ite _ P (Classical.propDecidable P) x none
noncomputable def bq {α : Type} (P : Prop) (x y : α) : α := @ite _ P (Classical.propDecidable P) x y
def jn {α β : Type} (k : α) (f : α → β) : β := f k
def sto {β : Type} (c : W0) (q : Nat) (i v : Int) (k : W0 → β) : β := k (upc c q (updZ (c q) i v))
def stw {β : Type} (c : W0) (q : Nat) (F : Int → Int) (k : W0 → β) : β := k (upc c q F)
def cl {α β : Type} (o : Option (α × W0)) (k : α → W0 → Option β) : Option β := match o with
  | none => none
  | some r => k r.1 r.2
def cv {α β : Type} (o : Option α) (k : α → Option β) : Option β := match o with
  | none => none
  | some r => k r
/-- a call that may throw, in a method that may throw -/
noncomputable def cx (o : Option (Int × Int × W0)) (k : Int → W0 → Option (Int × Int × W0)) : Option (Int × Int × W0) := match o with
  | none => none
  | some r => bq (r.1 = 0) (k r.2.1 r.2.2) (some (r.1, 0, r.2.2))
/-- a call that may throw, and doesn't here -/
noncomputable def cn {β : Type} (o : Option (Int × Int × W0)) (k : Int → W0 → Option β) : Option β := match o with
  | none => none
  | some r => gd (r.1 = 0) (k r.2.1 r.2.2)
def xnm (z : Int) : String := if z = 1 then "java/lang/IllegalArgumentException" else if z = 2 then "java/lang/IllegalStateException" else "java/lang/IndexOutOfBoundsException"
section
variable {α β : Type} {P : Prop}
theorem gd_t {x : Option α} (h : P) : gd P x = x := by unfold gd; rw [if_pos h]
theorem gd_i {x : Option α} {r : α} (H : gd P x = some r) : P ∧ x = some r := by
  by_cases h : P
  · rw [gd_t h] at H; exact ⟨h, H⟩
  · unfold gd at H; rw [if_neg h] at H; cases H
theorem bq_p {x y : α} (h : P) : bq P x y = x := by unfold bq; rw [if_pos h]
theorem bq_n {x y : α} (h : ¬ P) : bq P x y = y := by unfold bq; rw [if_neg h]
theorem bq_t {x y : α} {r : α} (h : P) (H : bq P x y = r) : x = r := by rw [bq_p h] at H; exact H
theorem bq_f {x y : α} {r : α} (h : ¬ P) (H : bq P x y = r) : y = r := by rw [bq_n h] at H; exact H
theorem jn_i {k : α} {f : α → β} {r : β} (H : jn k f = r) : ∃ k', k' = k ∧ f k' = r := ⟨k, rfl, H⟩
theorem sto_i {c : W0} {q : Nat} {i v : Int} {k : W0 → β} {r : β} (H : sto c q i v k = r) : ∃ c', upc c q (updZ (c q) i v) = c' ∧ k c' = r := ⟨_, rfl, H⟩
theorem stw_i {c : W0} {q : Nat} {F : Int → Int} {k : W0 → β} {r : β} (H : stw c q F k = r) : ∃ c', upc c q F = c' ∧ k c' = r := ⟨_, rfl, H⟩
theorem cl_i {o : Option (α × W0)} {k : α → W0 → Option β} {r : β} (H : cl o k = some r) : ∃ v c, o = some (v, c) ∧ k v c = some r := by
  unfold cl at H
  split at H
  · cases H
  · exact ⟨_, _, rfl, H⟩
theorem cv_i {o : Option α} {k : α → Option β} {r : β} (H : cv o k = some r) : ∃ v, o = some v ∧ k v = some r := by
  unfold cv at H
  split at H
  · cases H
  · exact ⟨_, rfl, H⟩
theorem cx_i {o : Option (Int × Int × W0)} {k : Int → W0 → Option (Int × Int × W0)} {r : Int × Int × W0} (H : cx o k = some r) : ∃ e v c, o = some (e, v, c) ∧ (e = 0 ∧ k v c = some r ∨ ¬ e = 0 ∧ (e, 0, c) = r) := by
  unfold cx at H
  split at H
  · cases H
  · rename_i r9
    refine ⟨_, _, _, rfl, ?_⟩
    by_cases h : r9.1 = 0
    · rw [bq_p h] at H; exact Or.inl ⟨h, H⟩
    · rw [bq_n h] at H; exact Or.inr ⟨h, Option.some.inj H⟩
theorem cn_i {o : Option (Int × Int × W0)} {k : Int → W0 → Option β} {r : β} (H : cn o k = some r) : ∃ v c, o = some (0, v, c) ∧ k v c = some r := by
  unfold cn at H
  split at H
  · cases H
  · rename_i r9
    obtain ⟨h, H⟩ := gd_i H
    refine ⟨_, _, ?_, H⟩
    rw [← h]
theorem cl_s {v : α} {c : W0} {k : α → W0 → Option β} : cl (some (v, c)) k = k v c := rfl
theorem cv_s {v : α} {k : α → Option β} : cv (some v) k = k v := rfl
theorem cn_s {v : Int} {c : W0} {k : Int → W0 → Option β} : cn (some (0, v, c)) k = k v c := gd_t rfl
theorem cx_s {v : Int} {c : W0} {k : Int → W0 → Option (Int × Int × W0)} : cx (some (0, v, c)) k = k v c := bq_p rfl
theorem cx_x {e v : Int} {c : W0} {k : Int → W0 → Option (Int × Int × W0)} (h : ¬ e = 0) : cx (some (e, v, c)) k = some (e, 0, c) := bq_n h
end
/-! bits of whole numbers -/
def iandZ (x y : Int) : Int := (i32 x &&& i32 y).toInt
def iorZ (x y : Int) : Int := (i32 x ||| i32 y).toInt
def ishlZ (x y : Int) : Int := (i32 x <<< (i32 y &&& 31)).toInt
def ishrZ (x y : Int) : Int := (i32 x >>> (i32 y &&& 31)).toInt
def lshlZ (x y : Int) : Int := (i64 x <<< ((i32 y).toInt64 &&& 63)).toInt
def iushrZ (x y : Int) : Int := ((i32 x).toUInt32 >>> ((i32 y).toUInt32 &&& Int32.toUInt32 31)).toInt32.toInt
section
variable {Φ : gwC} {Y : gwY} {E : gwE} {x : Option Nat} {cells slots pc pc' : Nat} {lv lv' : List (Nat × Value)} {st : List Value} {h : gwHp}
theorem gw_iandZ {a9 b9 : Int} (d : decode Y.2.1 pc = .ok (.iand, 1)) (e9 : pc + 1 = pc') (k : G Φ Y E x cells slots pc' lv (vI (iandZ a9 b9) :: st) h) : G Φ Y E x cells slots pc lv (vI b9 :: vI a9 :: st) h := gw_iand d e9 (by unfold iandZ vI at k; rw [← i32_o] at k; exact k)
theorem gw_iorZ {a9 b9 : Int} (d : decode Y.2.1 pc = .ok (.ior, 1)) (e9 : pc + 1 = pc') (k : G Φ Y E x cells slots pc' lv (vI (iorZ a9 b9) :: st) h) : G Φ Y E x cells slots pc lv (vI b9 :: vI a9 :: st) h := gw_ior d e9 (by unfold iorZ vI at k; rw [← i32_o] at k; exact k)
theorem gw_ishlZ {a9 b9 : Int} (d : decode Y.2.1 pc = .ok (.ishl, 1)) (e9 : pc + 1 = pc') (k : G Φ Y E x cells slots pc' lv (vI (ishlZ a9 b9) :: st) h) : G Φ Y E x cells slots pc lv (vI b9 :: vI a9 :: st) h := gw_ishl d e9 (by unfold ishlZ vI at k; rw [← i32_o] at k; exact k)
theorem gw_ishrZ {a9 b9 : Int} (d : decode Y.2.1 pc = .ok (.ishr, 1)) (e9 : pc + 1 = pc') (k : G Φ Y E x cells slots pc' lv (vI (ishrZ a9 b9) :: st) h) : G Φ Y E x cells slots pc lv (vI b9 :: vI a9 :: st) h := gw_ishr d e9 (by unfold ishrZ vI at k; rw [← i32_o] at k; exact k)
theorem gw_iushrZ {a9 b9 : Int} (d : decode Y.2.1 pc = .ok (.iushr, 1)) (e9 : pc + 1 = pc') (k : G Φ Y E x cells slots pc' lv (vI (iushrZ a9 b9) :: st) h) : G Φ Y E x cells slots pc lv (vI b9 :: vI a9 :: st) h := gw_iushr d e9 rfl (by unfold iushrZ vI at k; rw [← i32_o] at k; exact k)
theorem gw_ldcwZ {index : Nat} {v : Int32} {z : Int} (d : decode Y.2.1 pc = .ok (.ldc_w index, 3)) (e9 : pc + 3 = pc') (hw : Cond.constant Y.1.cls index v ∈ gw_W) (hz : v = i32 z) (k : G Φ Y E x cells slots pc' lv (vI z :: st) h) : G Φ Y E x cells slots pc lv st h := gw_ldcw d e9 hw (hz ▸ k)
theorem gw_lshlZ {a9 b9 : Int} (d : decode Y.2.1 pc = .ok (.lshl, 1)) (e9 : pc + 1 = pc') (k : G Φ Y E x cells slots pc' lv (vL (lshlZ a9 b9) :: st) h) : G Φ Y E x cells slots pc lv (vI b9 :: vL a9 :: st) h := gw_lshl d e9 (by unfold lshlZ vL at k; rw [← i64_o] at k; exact k)
theorem gw_d2lZ {a9 : UInt64} (d : decode Y.2.1 pc = .ok (.d2l, 1)) (e9 : pc + 1 = pc') (k : G Φ Y E x cells slots pc' lv (vL (FP.d2l a9).toInt :: st) h) : G Φ Y E x cells slots pc lv (.double a9 :: st) h := gw_d2l d e9 (by unfold vL at k; rw [← i64_o] at k; exact k)
theorem gw_dif_eq {x9 : Int32} {off : Int} {tgt : Nat} (d : decode Y.2.1 pc = .ok (.ifCond .eq off, 3)) (e9 : pc + 3 = pc') (ht : (pc : Int) + off = (tgt : Int)) (kt : x9 = 0 → G Φ Y E x cells slots tgt lv st h) (kf : ¬ x9 = 0 → G Φ Y E x cells slots pc' lv st h) : G Φ Y E x cells slots pc lv (.int x9 :: st) h := gw_if_eq d e9 ht kt kf
theorem gw_dif_ne {x9 : Int32} {off : Int} {tgt : Nat} (d : decode Y.2.1 pc = .ok (.ifCond .ne off, 3)) (e9 : pc + 3 = pc') (ht : (pc : Int) + off = (tgt : Int)) (kt : ¬ x9 = 0 → G Φ Y E x cells slots tgt lv st h) (kf : x9 = 0 → G Φ Y E x cells slots pc' lv st h) : G Φ Y E x cells slots pc lv (.int x9 :: st) h := gw_if_ne d e9 ht kt kf
theorem gw_dif_lt {x9 : Int32} {off : Int} {tgt : Nat} (d : decode Y.2.1 pc = .ok (.ifCond .lt off, 3)) (e9 : pc + 3 = pc') (ht : (pc : Int) + off = (tgt : Int)) (kt : x9 < 0 → G Φ Y E x cells slots tgt lv st h) (kf : ¬ x9 < 0 → G Φ Y E x cells slots pc' lv st h) : G Φ Y E x cells slots pc lv (.int x9 :: st) h := gw_if_lt d e9 ht kt kf
theorem gw_dif_ge {x9 : Int32} {off : Int} {tgt : Nat} (d : decode Y.2.1 pc = .ok (.ifCond .ge off, 3)) (e9 : pc + 3 = pc') (ht : (pc : Int) + off = (tgt : Int)) (kt : ¬ x9 < 0 → G Φ Y E x cells slots tgt lv st h) (kf : x9 < 0 → G Φ Y E x cells slots pc' lv st h) : G Φ Y E x cells slots pc lv (.int x9 :: st) h := gw_if_ge d e9 ht (fun z => kt (Int32.not_lt.mpr z)) (fun z => kf (Int32.not_le.mp z))
theorem gw_dif_gt {x9 : Int32} {off : Int} {tgt : Nat} (d : decode Y.2.1 pc = .ok (.ifCond .gt off, 3)) (e9 : pc + 3 = pc') (ht : (pc : Int) + off = (tgt : Int)) (kt : 0 < x9 → G Φ Y E x cells slots tgt lv st h) (kf : ¬ 0 < x9 → G Φ Y E x cells slots pc' lv st h) : G Φ Y E x cells slots pc lv (.int x9 :: st) h := gw_if_gt d e9 ht kt kf
theorem gw_dif_le {x9 : Int32} {off : Int} {tgt : Nat} (d : decode Y.2.1 pc = .ok (.ifCond .le off, 3)) (e9 : pc + 3 = pc') (ht : (pc : Int) + off = (tgt : Int)) (kt : ¬ 0 < x9 → G Φ Y E x cells slots tgt lv st h) (kf : 0 < x9 → G Φ Y E x cells slots pc' lv st h) : G Φ Y E x cells slots pc lv (.int x9 :: st) h := gw_if_le d e9 ht (fun z => kt (Int32.not_lt.mpr z)) (fun z => kf (Int32.not_le.mp z))
end
section SR
variable {Φ : gwC} {Y : gwY} {E : gwE} {x : Option Nat} {cells slots pc pc' : Nat} {lv lv' : List (Nat × Value)} {st : List Value} {hb : gwHp} {M : Nat} {sh : Nat → Option gSh} {c c' : Nat → Int → Int} {q q2 n ci N index : Nat} {C host : String} {T : u_T} {ty : Nat → FieldType} {ds : List (Nat ⊕ Int)} {F : Int → Int} {i v : Int}
theorem gs_putIE (cl : gw_Cl ci C T N ty) (k0 : Nat) (z : Int) (d : decode Y.2.1 pc = .ok (.putfield index, 3)) (e9 : pc + 3 = pc') (hl0 : Cond.fieldLink Y.1.cls index (T k0).1 (T k0).2.1 (T k0).2.2.1 ∈ gw_W) (hk : k0 < N) (hfin : (T k0).2.2.2 = false) (hty : ty k0 = .int) (hs : sh q = some (0, ci, ds)) (hd : ds[k0]? = some (.inl 0)) (hz : (k0 : Int) = z) (he : upc c q (updZ (c q) z v) = c') (kk : G Φ Y E x cells slots pc' lv st (hp Φ hb M sh c')) : G Φ Y E x cells slots pc lv (vI v :: .ref (M + q) :: st) (hp Φ hb M sh c) := gs_putI cl k0 z d e9 hl0 hk hfin hty hs hd hz (by rw [he]; exact kk)
theorem gs_putLE (cl : gw_Cl ci C T N ty) (k0 : Nat) (z : Int) (d : decode Y.2.1 pc = .ok (.putfield index, 3)) (e9 : pc + 3 = pc') (hl0 : Cond.fieldLink Y.1.cls index (T k0).1 (T k0).2.1 (T k0).2.2.1 ∈ gw_W) (hk : k0 < N) (hfin : (T k0).2.2.2 = false) (hty : ty k0 = .long) (hs : sh q = some (0, ci, ds)) (hd : ds[k0]? = some (.inl 1)) (hz : (k0 : Int) = z) (he : upc c q (updZ (c q) z v) = c') (kk : G Φ Y E x cells slots pc' lv st (hp Φ hb M sh c')) : G Φ Y E x cells slots pc lv (vL v :: .ref (M + q) :: st) (hp Φ hb M sh c) := gs_putL cl k0 z d e9 hl0 hk hfin hty hs hd hz (by rw [he]; exact kk)
theorem gs_putZE (cl : gw_Cl ci C T N ty) (k0 : Nat) (z : Int) (d : decode Y.2.1 pc = .ok (.putfield index, 3)) (e9 : pc + 3 = pc') (hl0 : Cond.fieldLink Y.1.cls index (T k0).1 (T k0).2.1 (T k0).2.2.1 ∈ gw_W) (hk : k0 < N) (hfin : (T k0).2.2.2 = false) (hty : ty k0 = .boolean) (hs : sh q = some (0, ci, ds)) (hd : ds[k0]? = some (.inl 0)) (hz : (k0 : Int) = z) (hv : 0 ≤ v ∧ v ≤ 1) (he : upc c q (updZ (c q) z v) = c') (kk : G Φ Y E x cells slots pc' lv st (hp Φ hb M sh c')) : G Φ Y E x cells slots pc lv (vI v :: .ref (M + q) :: st) (hp Φ hb M sh c) := gs_putZ cl k0 z d e9 hl0 hk hfin hty hs hd hz hv (by rw [he]; exact kk)
theorem gs_putINE (cl : gw_Cl ci C T N ty) (k0 : Nat) (z : Int) (d : decode Y.2.1 pc = .ok (.putfield index, 3)) (e9 : pc + 3 = pc') (hl0 : Cond.fieldLinkNest Y.1.cls index (T k0).1 (T k0).2.1 (T k0).2.2.1 host ∈ gw_NW) (hk : k0 < N) (hfin : (T k0).2.2.2 = false) (hty : ty k0 = .int) (hs : sh q = some (0, ci, ds)) (hd : ds[k0]? = some (.inl 0)) (hz : (k0 : Int) = z) (he : upc c q (updZ (c q) z v) = c') (kk : G Φ Y E x cells slots pc' lv st (hp Φ hb M sh c')) : G Φ Y E x cells slots pc lv (vI v :: .ref (M + q) :: st) (hp Φ hb M sh c) := gs_putIN cl k0 z d e9 hl0 hk hfin hty hs hd hz (by rw [he]; exact kk)
theorem gs_putLNE (cl : gw_Cl ci C T N ty) (k0 : Nat) (z : Int) (d : decode Y.2.1 pc = .ok (.putfield index, 3)) (e9 : pc + 3 = pc') (hl0 : Cond.fieldLinkNest Y.1.cls index (T k0).1 (T k0).2.1 (T k0).2.2.1 host ∈ gw_NW) (hk : k0 < N) (hfin : (T k0).2.2.2 = false) (hty : ty k0 = .long) (hs : sh q = some (0, ci, ds)) (hd : ds[k0]? = some (.inl 1)) (hz : (k0 : Int) = z) (he : upc c q (updZ (c q) z v) = c') (kk : G Φ Y E x cells slots pc' lv st (hp Φ hb M sh c')) : G Φ Y E x cells slots pc lv (vL v :: .ref (M + q) :: st) (hp Φ hb M sh c) := gs_putLN cl k0 z d e9 hl0 hk hfin hty hs hd hz (by rw [he]; exact kk)
theorem gs_putZNE (cl : gw_Cl ci C T N ty) (k0 : Nat) (z : Int) (d : decode Y.2.1 pc = .ok (.putfield index, 3)) (e9 : pc + 3 = pc') (hl0 : Cond.fieldLinkNest Y.1.cls index (T k0).1 (T k0).2.1 (T k0).2.2.1 host ∈ gw_NW) (hk : k0 < N) (hfin : (T k0).2.2.2 = false) (hty : ty k0 = .boolean) (hs : sh q = some (0, ci, ds)) (hd : ds[k0]? = some (.inl 0)) (hz : (k0 : Int) = z) (hv : 0 ≤ v ∧ v ≤ 1) (he : upc c q (updZ (c q) z v) = c') (kk : G Φ Y E x cells slots pc' lv st (hp Φ hb M sh c')) : G Φ Y E x cells slots pc lv (vI v :: .ref (M + q) :: st) (hp Φ hb M sh c) := gs_putZN cl k0 z d e9 hl0 hk hfin hty hs hd hz hv (by rw [he]; exact kk)
theorem gs_iastZE (d : decode Y.2.1 pc = .ok (.iastore, 1)) (e9 : pc + 1 = pc') (hs : sh q = some (1, n, [])) (hi : 0 ≤ i ∧ i < (n : Int)) (hn : n ≤ 2000000000) (he : upc c q (updZ (c q) i v) = c') (k : G Φ Y E x cells slots pc' lv st (hp Φ hb M sh c')) : G Φ Y E x cells slots pc lv (vI v :: vI i :: .ref (M + q) :: st) (hp Φ hb M sh c) := gs_iastZ d e9 hs hi hn (by rw [he]; exact k)
theorem gs_lastZE (d : decode Y.2.1 pc = .ok (.lastore, 1)) (e9 : pc + 1 = pc') (hs : sh q = some (2, n, [])) (hi : 0 ≤ i ∧ i < (n : Int)) (hn : n ≤ 2000000000) (he : upc c q (updZ (c q) i v) = c') (k : G Φ Y E x cells slots pc' lv st (hp Φ hb M sh c')) : G Φ Y E x cells slots pc lv (vL v :: vI i :: .ref (M + q) :: st) (hp Φ hb M sh c) := gs_lastZ d e9 hs hi hn (by rw [he]; exact k)
theorem gs_aastZE (d : decode Y.2.1 pc = .ok (.aastore, 1)) (e9 : pc + 1 = pc') (hs : sh q = some (3, n, [])) (hs2 : sh q2 = some (0, 4, ds)) (hi : 0 ≤ i ∧ i < (n : Int)) (hn : n ≤ 2000000000) (he : upc c q (updZ (c q) i q2) = c') (k : G Φ Y E x cells slots pc' lv st (hp Φ hb M sh c')) : G Φ Y E x cells slots pc lv (.ref (M + q2) :: vI i :: .ref (M + q) :: st) (hp Φ hb M sh c) := gs_aastZ d e9 hs hs2 hi hn (by rw [he]; exact k)
end SR
/-! shapes -/
def sP (sh : Nat → Option gSh) (b : Nat) : Prop := sh b = some (0, 2, [.inl 0, .inl 0, .inl (b + 1 + 2)]) ∧ shG sh (b + 1) (b + 2) 5 25
def sT (sh : Nat → Option gSh) (b : Nat) : Prop := sh b = some (0, 6, [.inl 0, .inl 0, .inl 1, .inl (b + 1 + 2), .inl (b + 3 + 2)]) ∧ shG sh (b + 1) (b + 2) 4 4 ∧ shG sh (b + 3) (b + 4) 9 45
def sS (sh : Nat → Option gSh) (b : Nat) : Prop := sh b = some (0, 4, [.inl (b + 1 + 2), .inl (b + 4 + 2), .inl 0, .inl 0, .inl 0, .inl 0]) ∧ sP sh (b + 1) ∧ sT sh (b + 4)
def sX (sh : Nat → Option gSh) (b : Nat) : Prop := sh b = some (0, 7, [.inl 0, .inl (b + 1 + 2)]) ∧ shG sh (b + 1) (b + 2) 80 80
def sR (sh : Nat → Option gSh) (b : Nat) : Prop := sh b = some (0, 3, [.inl (b + 1 + 2), .inl (b + 4 + 2), .inl 0]) ∧ sX sh (b + 1) ∧ sP sh (b + 4)
def sE (sh : Nat → Option gSh) (b : Nat) : Prop := sh b = some (0, 0, [.inl 0, .inl 1, .inl (b + 1 + 2)]) ∧ shG sh (b + 1) (b + 2) 5 20
def sV (sh : Nat → Option gSh) (b : Nat) : Prop := sh b = some (0, 5, [.inl (b + 1 + 2), .inl (b + 4 + 2), .inl 0, .inl 0, .inl 1, .inl 1]) ∧ sE sh (b + 1) ∧ shG sh (b + 4) (b + 5) 70 140
def sD (sh : Nat → Option gSh) (b : Nat) : Prop := sh b = some (0, 8, [.inl (b + 1 + 2), .inl (b + 10 + 2), .inl (b + 19 + 2), .inl (b + 28 + 2), .inl (b + 29 + 2), .inl (b + 32 + 2), .inl (b + 35 + 2), .inl (b + 42 + 2), .inl (b + 45 + 2), .inl 0, .inl 0]) ∧ sS sh (b + 1) ∧ sS sh (b + 10) ∧ sS sh (b + 19) ∧ sh (b + 28) = some (3, 6, []) ∧ sX sh (b + 29) ∧ sX sh (b + 32) ∧ sR sh (b + 35) ∧ sE sh (b + 42) ∧ sV sh (b + 45) ∧ ∀ k : Nat, k < 6 → sS sh (b + 51 + 9 * k)
def sM (sh : Nat → Option gSh) (b : Nat) : Prop := sh b = some (0, 9, [.inl 0, .inl (b + 1 + 2), .inl (b + 2 + 2), .inl (b + 3 + 2), .inl 0, .inl (b + 4 + 2), .inl 0, .inl (b + 5 + 2), .inl 0, .inl (b + 6 + 2), .inl (b + 7 + 2), .inl (b + 8 + 2), .inl (b + 9 + 2), .inl (b + 10 + 2), .inl (b + 11 + 2), .inl (b + 12 + 2), .inl 1, .inl 1, .inl 0, .inl 0, .inl (b + 13 + 2), .inl (b + 14 + 2), .inl 0, .inl 0, .inl 0, .inl 1, .inl 1, .inl 1]) ∧ sh (b + 1) = some (1, 34, []) ∧ sh (b + 2) = some (1, 34, []) ∧ sh (b + 3) = some (1, 204, []) ∧ sh (b + 4) = some (1, 34, []) ∧ sh (b + 5) = some (1, 60, []) ∧ sh (b + 6) = some (2, 36, []) ∧ sh (b + 7) = some (2, 36, []) ∧ sh (b + 8) = some (1, 4, []) ∧ sh (b + 9) = some (1, 4, []) ∧ sh (b + 10) = some (2, 36, []) ∧ sh (b + 11) = some (2, 36, []) ∧ sh (b + 12) = some (2, 140, []) ∧ sh (b + 13) = some (1, 26, []) ∧ sh (b + 14) = some (1, 80, [])
def stP (d q : Nat) : Prop := ∃ k : Nat, k < 6 ∧ q = d + 51 + 9 * k
theorem stP_s {sh : Nat → Option gSh} {d q : Nat} (h : sD sh d) (hq : stP d q) : sS sh q := by
  obtain ⟨k, hk, rfl⟩ := hq
  exact h.2.2.2.2.2.2.2.2.2.2 k hk
/-! Grid -/
def clG (F : Int → Int) (w h row b col last D : Int) : Prop := (0 ≤ row ∧ row < h) ∧ (0 ≤ b ∧ b < h) ∧ row ≠ b ∧ (0 ≤ col ∧ col < w) ∧ (0 ≤ last ∧ last < w) ∧ R64 D ∧ ¬ D = 0 ∧ ∀ q, 0 ≤ q → q ≤ last → R64 (F (row * w + q) * F (b * w + col) - F (row * w + col) * F (b * w + q))
section
variable {Φ : gwC} {hb : gwHp} {M : Nat} {sh : Nat → Option gSh} {c c' : Nat → Int → Int} {g a g2 a2 n : Nat} {w r k v : Int} {K : Option Value → gwHp → Prop}
theorem k_at0 (hG : shG sh g a w n) (hw : w ≤ 1000) (hk : 0 ≤ k ∧ k < w) (hi : k < n) (hn : n ≤ 1000000) (hK : K (some (vL (c a k))) (hp Φ hb M sh c)) : gw_Con Φ mX1_at none [.ref (M + g), vI 0, vI k] (hp Φ hb M sh c) K := k_at hG hw (by omega) hk (by omega) hn (by rw [Int.zero_mul, Int.zero_add]; exact hK)
theorem k_putE (hG : shG sh g a w n) (hw : w ≤ 1000) (hr : 0 ≤ r ∧ r ≤ 1000) (hk : 0 ≤ k ∧ k < w) (hi : r * w + k < n) (hn : n ≤ 1000000) (he : upc c a (updZ (c a) (r * w + k) v) = c') (hK : K none (hp Φ hb M sh c')) : gw_Con Φ mX1_put none [.ref (M + g), vI r, vI k, vL v] (hp Φ hb M sh c) K := k_put hG hw hr hk hi hn (by rw [he]; exact hK)
theorem k_put0E (hG : shG sh g a w n) (hw : w ≤ 1000) (hk : 0 ≤ k ∧ k < w) (hi : k < n) (hn : n ≤ 1000000) (he : upc c a (updZ (c a) k v) = c') (hK : K none (hp Φ hb M sh c')) : gw_Con Φ mX1_put none [.ref (M + g), vI 0, vI k, vL v] (hp Φ hb M sh c) K := k_put hG hw (by omega) hk (by omega) hn (by rw [Int.zero_mul, Int.zero_add, he]; exact hK)
theorem k_GcopyE (hG : shG sh g a w n) (hG2 : shG sh g2 a2 w n) (hn : n ≤ 1000000) (he : upc c a (c a2) = c') (hK : K none (hp Φ hb M sh c')) : gw_Con Φ mX1_copy none [.ref (M + g), .ref (M + g2)] (hp Φ hb M sh c) K := k_Gcopy hG hG2 hn (by rw [he]; exact hK)
theorem k_clearE {row b col last D h : Int} (hG : shG sh g a w n) (hw : w ≤ 1000) (hh : h ≤ 1000) (hwh : w * h = n) (hn : n ≤ 1000000) (g9 : clG (c a) w h row b col last D) (he : upc c a (clr (c a) w row b col D (last + 1)) = c') (hK : K none (hp Φ hb M sh c')) : gw_Con Φ mX1_clear none [.ref (M + g), vI row, vI b, vI col, vI last, vL D] (hp Φ hb M sh c) K := by
  obtain ⟨h1, h2, h3, h4, h5, h6, h7, h8⟩ := g9
  have hq : ∀ z : Int, 0 ≤ z → z < h → z * w + w ≤ n := fun z h0 hz => by
    have h9 : (z + 1) * w ≤ h * w := Int.mul_le_mul_of_nonneg_right (by omega) (by omega)
    rw [Int.add_mul, Int.one_mul, Int.mul_comm h w, hwh] at h9
    exact h9
  exact k_clear hG hw ⟨h1.1, by omega⟩ ⟨h2.1, by omega⟩ h3 h4 h5 (hq row h1.1 h1.2) (hq b h2.1 h2.2) hn h6 h7 h8 (by rw [he]; exact hK)
end
/-! Problem -/
section
variable {Φ : gwC} {hb : gwHp} {M : Nat} {sh : Nat → Option gSh} {c : W0} {th p1 : Nat} {K : Option Value → gwHp → Prop}
noncomputable def f_X2_profit (th : Nat) (p1 : Int) (c : W0) : Option Int := gd (0 ≤ p1 ∧ p1 < 4) (some (c (th + 2) (4 * 5 + p1)))
theorem w_X2_profit {p1 : Int} {r : Int} (h0 : sP sh th) (H : f_X2_profit th p1 c = some r) (hK : K (some (vI r)) (hp Φ hb M sh c)) : gw_Con Φ mX2_profit none [.ref (M + th), vI p1] (hp Φ hb M sh c) K := by
  unfold f_X2_profit at H
  obtain ⟨g, H⟩ := gd_i H
  cases H
  exact k_profit h0 g hK
noncomputable def f_X2_putProfit (th : Nat) (p1 : Int) (p2 : Int) (c : W0) : Option (Int × W0) := gd ((0 ≤ p1 ∧ p1 < 4) ∧ R32 p2) (some (0, upc c (th + 2) (updZ (c (th + 2)) (4 * 5 + p1) p2)))
theorem w_X2_putProfit {p1 : Int} {p2 : Int} {r : Int × W0} (h0 : sP sh th) (H : f_X2_putProfit th p1 p2 c = some r) (hK : K none (hp Φ hb M sh r.2)) : gw_Con Φ mX2_putProfit none [.ref (M + th), vI p1, vI p2] (hp Φ hb M sh c) K := by
  unfold f_X2_putProfit at H
  obtain ⟨g, H⟩ := gd_i H
  cases H
  exact k_putProfit h0 g.1 g.2 hK
noncomputable def f_X2_coefficient (th : Nat) (p1 : Int) (p2 : Int) (c : W0) : Option Int := gd ((0 ≤ p1 ∧ p1 < 4) ∧ 0 ≤ p2 ∧ p2 < 4) (some (c (th + 2) (p1 * 5 + p2)))
theorem w_X2_coefficient {p1 : Int} {p2 : Int} {r : Int} (h0 : sP sh th) (H : f_X2_coefficient th p1 p2 c = some r) (hK : K (some (vI r)) (hp Φ hb M sh c)) : gw_Con Φ mX2_coefficient none [.ref (M + th), vI p1, vI p2] (hp Φ hb M sh c) K := by
  unfold f_X2_coefficient at H
  obtain ⟨g, H⟩ := gd_i H
  cases H
  exact k_coefficient h0 g.1 g.2 hK
noncomputable def f_X2_putCoefficient (th : Nat) (p1 : Int) (p2 : Int) (p3 : Int) (c : W0) : Option (Int × W0) := gd ((0 ≤ p1 ∧ p1 < 4) ∧ (0 ≤ p2 ∧ p2 < 4) ∧ R32 p3) (some (0, upc c (th + 2) (updZ (c (th + 2)) (p1 * 5 + p2) p3)))
theorem w_X2_putCoefficient {p1 : Int} {p2 : Int} {p3 : Int} {r : Int × W0} (h0 : sP sh th) (H : f_X2_putCoefficient th p1 p2 p3 c = some r) (hK : K none (hp Φ hb M sh r.2)) : gw_Con Φ mX2_putCoefficient none [.ref (M + th), vI p1, vI p2, vI p3] (hp Φ hb M sh c) K := by
  unfold f_X2_putCoefficient at H
  obtain ⟨g, H⟩ := gd_i H
  cases H
  exact k_putCoefficient h0 g.1 g.2.1 g.2.2 hK
noncomputable def f_X2_bound (th : Nat) (p1 : Int) (c : W0) : Option Int := gd (0 ≤ p1 ∧ p1 < 4) (some (c (th + 2) (p1 * 5 + 4)))
theorem w_X2_bound {p1 : Int} {r : Int} (h0 : sP sh th) (H : f_X2_bound th p1 c = some r) (hK : K (some (vI r)) (hp Φ hb M sh c)) : gw_Con Φ mX2_bound none [.ref (M + th), vI p1] (hp Φ hb M sh c) K := by
  unfold f_X2_bound at H
  obtain ⟨g, H⟩ := gd_i H
  cases H
  exact k_bound h0 g hK
noncomputable def f_X2_putBound (th : Nat) (p1 : Int) (p2 : Int) (c : W0) : Option (Int × W0) := gd ((0 ≤ p1 ∧ p1 < 4) ∧ R32 p2) (some (0, upc c (th + 2) (updZ (c (th + 2)) (p1 * 5 + 4) p2)))
theorem w_X2_putBound {p1 : Int} {p2 : Int} {r : Int × W0} (h0 : sP sh th) (H : f_X2_putBound th p1 p2 c = some r) (hK : K none (hp Φ hb M sh r.2)) : gw_Con Φ mX2_putBound none [.ref (M + th), vI p1, vI p2] (hp Φ hb M sh c) K := by
  unfold f_X2_putBound at H
  obtain ⟨g, H⟩ := gd_i H
  cases H
  exact k_putBound h0 g.1 g.2 hK
noncomputable def f_X2_firstFactor (th : Nat) (p1 : Int) (p2 : Int) (c : W0) : Option Int := gd ((0 ≤ p1 ∧ p1 < 4) ∧ (0 ≤ c th 0 ∧ c th 0 ≤ 4) ∧ 0 ≤ p2 ∧ p2 ≤ 8) (some (ffZ (c th 0) (c (th + 2)) p1 p2))
theorem w_X2_firstFactor {p1 : Int} {p2 : Int} {r : Int} (h0 : sP sh th) (H : f_X2_firstFactor th p1 p2 c = some r) (hK : K (some (vI r)) (hp Φ hb M sh c)) : gw_Con Φ mX2_firstFactor none [.ref (M + th), vI p1, vI p2] (hp Φ hb M sh c) K := by
  unfold f_X2_firstFactor at H
  obtain ⟨g, H⟩ := gd_i H
  cases H
  exact k_firstFactor h0 g.1 g.2.1 g.2.2 hK
noncomputable def f_X2_columnProfit (th : Nat) (p1 : Int) (c : W0) : Option Int := gd ((0 ≤ c th 0 ∧ c th 0 ≤ 4) ∧ 0 ≤ p1 ∧ p1 ≤ 8) (some (cpZ (c th 0) (c (th + 2)) p1))
theorem w_X2_columnProfit {p1 : Int} {r : Int} (h0 : sP sh th) (H : f_X2_columnProfit th p1 c = some r) (hK : K (some (vI r)) (hp Φ hb M sh c)) : gw_Con Φ mX2_columnProfit none [.ref (M + th), vI p1] (hp Φ hb M sh c) K := by
  unfold f_X2_columnProfit at H
  obtain ⟨g, H⟩ := gd_i H
  cases H
  exact k_columnProfit h0 g.1 g.2 hK
noncomputable def f_X2_resize (th : Nat) (p1 : Int) (c : W0) : Option (Int × W0) := gd (0 ≤ p1 ∧ p1 ≤ 4) (some (0, upc (upc c (th + 2) (rszZ (c (th + 2)) p1 4 0)) th (updZ (upc c (th + 2) (rszZ (c (th + 2)) p1 4 0) th) 0 p1)))
theorem w_X2_resize {p1 : Int} {r : Int × W0} (h0 : sP sh th) (H : f_X2_resize th p1 c = some r) (hK : K none (hp Φ hb M sh r.2)) : gw_Con Φ mX2_resize none [.ref (M + th), vI p1] (hp Φ hb M sh c) K := by
  unfold f_X2_resize at H
  obtain ⟨g, H⟩ := gd_i H
  cases H
  exact k_resize h0 g hK
noncomputable def f_X2_add (th : Nat) (p1 : Int) (c : W0) : Option (Int × W0) := gd ((0 ≤ c th 1 ∧ c th 1 < 4) ∧ R32 p1) (some (c th 1, upc (upc c (th + 2) (updZ (addZ (c (th + 2)) (c th 1) 4) (c th 1 * 5 + 4) p1)) th (updZ (c th) 1 (c th 1 + 1))))
theorem w_X2_add {p1 : Int} {r : Int × W0} (h0 : sP sh th) (H : f_X2_add th p1 c = some r) (hK : K (some (vI r.1)) (hp Φ hb M sh r.2)) : gw_Con Φ mX2_add none [.ref (M + th), vI p1] (hp Φ hb M sh c) K := by
  unfold f_X2_add at H
  obtain ⟨g, H⟩ := gd_i H
  cases H
  exact k_add h0 g.1 g.2 (by omega) hK
noncomputable def f_X2_drop (th : Nat) (p1 : Int) (c : W0) : Option (Int × W0) := gd (0 ≤ p1 ∧ p1 < c th 1 ∧ c th 1 ≤ 4) (some (0, upc (upc c (th + 2) (dropZ (c (th + 2)) p1 (c th 1 - 1) 0)) th (updZ (c th) 1 (c th 1 - 1))))
theorem w_X2_drop {p1 : Int} {r : Int × W0} (h0 : sP sh th) (H : f_X2_drop th p1 c = some r) (hK : K none (hp Φ hb M sh r.2)) : gw_Con Φ mX2_drop none [.ref (M + th), vI p1] (hp Φ hb M sh c) K := by
  unfold f_X2_drop at H
  obtain ⟨g, H⟩ := gd_i H
  cases H
  exact k_drop h0 g (by omega) hK
noncomputable def f_X2_empty (th : Nat) (p1 : Int) (c : W0) : Option (Int × W0) := gd (0 ≤ p1 ∧ p1 ≤ 4) (some (0, upc (upc c (th + 2) (rszZ (c (th + 2)) 0 4 0)) th (updZ (updZ (updZ (c th) 0 0) 0 p1) 1 0)))
noncomputable def f_X2_copy (th : Nat) (p1 : Nat) (c : W0) : Option (Int × W0) := gd (p1 ≠ th ∧ p1 + 2 ≠ th ∧ p1 ≠ th + 2) (some (0, upc (upc c th (updZ (updZ (c th) 0 (c p1 0)) 1 (c p1 1))) (th + 2) (c (p1 + 2))))
theorem w_X2_copy  {r : Int × W0} (h0 : sP sh th) (h1 : sP sh p1) (H : f_X2_copy th p1 c = some r) (hK : K none (hp Φ hb M sh r.2)) : gw_Con Φ mX2_copy none [.ref (M + th), .ref (M + p1)] (hp Φ hb M sh c) K := by
  unfold f_X2_copy at H
  obtain ⟨g, H⟩ := gd_i H
  cases H
  exact k_Pcopy h0 h1 g hK
end
end FN
