section MZ
variable {Φ : gwC} {Y : gwY} {E : gwE} {x : Option Nat} {cells slots pc pc' : Nat} {lv lv' : List (Nat × Value)} {st : List Value} {h : gwHp}
theorem gw_mabsZ {index : Nat} {a9 : Int} (d : decode Y.2.1 pc = .ok (.invokestatic index, 3)) (e9 : pc + 3 = pc') (hl0 : Cond.methodLink Y.1.cls index Lib.Math.abs.name ∈ gw_W) (hstt : Cond.static Lib.Math.abs.name ∈ gw_W) (hini : Cond.initialized "java/lang/Math" ∈ gw_W) (hco : Cond.code Lib.Math.abs.name Lib.Math.abs.code 1 (some .int) ∈ gw_W) (hfr : 1 ≤ Y.2.2.2.2.1.frames) (hlo : (st.map fun v => v.category).sum + 13 ≤ Y.2.2.2.2.1.locals) (hc : cells ≤ Y.2.2.2.2.1.cells) (hs : slots ≤ Y.2.2.2.2.1.slots) (h0 : R32 a9) (k : G Φ Y E x cells slots pc' lv (vI (if 0 ≤ a9 then a9 else -a9) :: st) h) : G Φ Y E x cells slots pc lv (vI a9 :: st) h := gw_mabs d e9 hl0 hstt hini hco hfr hlo hc hs (by
  rw [show (if 0 ≤ i32 a9 then i32 a9 else 0 - i32 a9) = i32 (if 0 ≤ a9 then a9 else -a9) by
    have e : (0 ≤ i32 a9) ↔ 0 ≤ a9 := i32_le (x := 0) ⟨by omega, by omega⟩ h0
    by_cases hh : 0 ≤ a9
    · rw [if_pos (e.mpr hh), if_pos hh]
    · rw [if_neg (fun z => hh (e.mp z)), if_neg hh, i32_0, i32_s, show 0 - a9 = -a9 by omega]]
  exact k)
theorem gw_mabslZ {index : Nat} {a9 : Int} (d : decode Y.2.1 pc = .ok (.invokestatic index, 3)) (e9 : pc + 3 = pc') (hl0 : Cond.methodLink Y.1.cls index Lib.MathLoose.abs_long.x ∈ gw_W) (hstt : Cond.static Lib.MathLoose.abs_long.x ∈ gw_W) (hini : Cond.initialized "java/lang/Math" ∈ gw_W) (hco : Cond.code Lib.MathLoose.abs_long.x Lib.MathLoose.abs_long.code 2 (some .long) ∈ gw_W) (hfr : 1 ≤ Y.2.2.2.2.1.frames) (hlo : (st.map fun v => v.category).sum + 13 ≤ Y.2.2.2.2.1.locals) (hc : cells ≤ Y.2.2.2.2.1.cells) (hs : slots ≤ Y.2.2.2.2.1.slots) (h0 : R64 a9) (k : G Φ Y E x cells slots pc' lv (vL (if 0 < a9 then a9 else -a9) :: st) h) : G Φ Y E x cells slots pc lv (vL a9 :: st) h := gw_mabsl d e9 hl0 hstt hini hco hfr hlo hc hs (by
  rw [show (if 0 < i64 a9 then i64 a9 else -i64 a9) = i64 (if 0 < a9 then a9 else -a9) by
    have e : (0 < i64 a9) ↔ 0 < a9 := i64_lt (x := 0) ⟨by omega, by omega⟩ h0
    by_cases hh : 0 < a9
    · rw [if_pos (e.mpr hh), if_pos hh]
    · rw [if_neg (fun z => hh (e.mp z)), if_neg hh, i64_n]]
  exact k)
theorem gw_mmaxZ {index : Nat} {a9 b9 : Int} (d : decode Y.2.1 pc = .ok (.invokestatic index, 3)) (e9 : pc + 3 = pc') (hl0 : Cond.methodLink Y.1.cls index Lib.Math.max.name ∈ gw_W) (hstt : Cond.static Lib.Math.max.name ∈ gw_W) (hini : Cond.initialized "java/lang/Math" ∈ gw_W) (hco : Cond.code Lib.Math.max.name Lib.Math.max.code 2 (some .int) ∈ gw_W) (hfr : 1 ≤ Y.2.2.2.2.1.frames) (hlo : (st.map fun v => v.category).sum + 13 ≤ Y.2.2.2.2.1.locals) (hc : cells ≤ Y.2.2.2.2.1.cells) (hs : slots ≤ Y.2.2.2.2.1.slots) (h0 : R32 a9) (h1 : R32 b9) (k : G Φ Y E x cells slots pc' lv (vI (if a9 < b9 then b9 else a9) :: st) h) : G Φ Y E x cells slots pc lv (vI b9 :: vI a9 :: st) h := gw_mmax d e9 hl0 hstt hini hco hfr hlo hc hs (by
  rw [show (if i32 a9 < i32 b9 then i32 b9 else i32 a9) = i32 (if a9 < b9 then b9 else a9) by
    have e : (i32 a9 < i32 b9) ↔ a9 < b9 := i32_lt h0 h1
    by_cases hh : a9 < b9
    · rw [if_pos (e.mpr hh), if_pos hh]
    · rw [if_neg (fun z => hh (e.mp z)), if_neg hh]]
  exact k)
theorem gw_mminZ {index : Nat} {a9 b9 : Int} (d : decode Y.2.1 pc = .ok (.invokestatic index, 3)) (e9 : pc + 3 = pc') (hl0 : Cond.methodLink Y.1.cls index Lib.Math.min.name ∈ gw_W) (hstt : Cond.static Lib.Math.min.name ∈ gw_W) (hini : Cond.initialized "java/lang/Math" ∈ gw_W) (hco : Cond.code Lib.Math.min.name Lib.Math.min.code 2 (some .int) ∈ gw_W) (hfr : 1 ≤ Y.2.2.2.2.1.frames) (hlo : (st.map fun v => v.category).sum + 13 ≤ Y.2.2.2.2.1.locals) (hc : cells ≤ Y.2.2.2.2.1.cells) (hs : slots ≤ Y.2.2.2.2.1.slots) (h0 : R32 a9) (h1 : R32 b9) (k : G Φ Y E x cells slots pc' lv (vI (if b9 < a9 then b9 else a9) :: st) h) : G Φ Y E x cells slots pc lv (vI b9 :: vI a9 :: st) h := gw_mmin d e9 hl0 hstt hini hco hfr hlo hc hs (by
  rw [show (if i32 b9 < i32 a9 then i32 b9 else i32 a9) = i32 (if b9 < a9 then b9 else a9) by
    have e : (i32 b9 < i32 a9) ↔ b9 < a9 := i32_lt h1 h0
    by_cases hh : b9 < a9
    · rw [if_pos (e.mpr hh), if_pos hh]
    · rw [if_neg (fun z => hh (e.mp z)), if_neg hh]]
  exact k)
theorem gw_mminlZ {index : Nat} {a9 b9 : Int} (d : decode Y.2.1 pc = .ok (.invokestatic index, 3)) (e9 : pc + 3 = pc') (hl0 : Cond.methodLink Y.1.cls index Lib.MathLoose.min_long.x ∈ gw_W) (hstt : Cond.static Lib.MathLoose.min_long.x ∈ gw_W) (hini : Cond.initialized "java/lang/Math" ∈ gw_W) (hco : Cond.code Lib.MathLoose.min_long.x Lib.MathLoose.min_long.code 4 (some .long) ∈ gw_W) (hfr : 1 ≤ Y.2.2.2.2.1.frames) (hlo : (st.map fun v => v.category).sum + 15 ≤ Y.2.2.2.2.1.locals) (hc : cells ≤ Y.2.2.2.2.1.cells) (hs : slots ≤ Y.2.2.2.2.1.slots) (h0 : R64 a9) (h1 : R64 b9) (k : G Φ Y E x cells slots pc' lv (vL (if b9 < a9 then b9 else a9) :: st) h) : G Φ Y E x cells slots pc lv (vL b9 :: vL a9 :: st) h := gw_mminl d e9 hl0 hstt hini hco hfr hlo hc hs (by
  rw [show (if i64 b9 < i64 a9 then i64 b9 else i64 a9) = i64 (if b9 < a9 then b9 else a9) by
    have e : (i64 b9 < i64 a9) ↔ b9 < a9 := i64_lt h1 h0
    by_cases hh : b9 < a9
    · rw [if_pos (e.mpr hh), if_pos hh]
    · rw [if_neg (fun z => hh (e.mp z)), if_neg hh]]
  exact k)
end MZ
section CT0
theorem mb {x y A B : Int} (hx : -A ≤ x ∧ x ≤ A) (hy : -B ≤ y ∧ y ≤ B) : -(A * B) ≤ x * y ∧ x * y ≤ A * B := by
  have hA : 0 ≤ A := by omega
  have hB : 0 ≤ B := by omega
  have hx' : x.natAbs ≤ A.natAbs := by omega
  have hy' : y.natAbs ≤ B.natAbs := by omega
  have h := Nat.mul_le_mul hx' hy'
  rw [← Int.natAbs_mul, ← Int.natAbs_mul] at h
  have h0 : 0 ≤ A * B := Int.mul_nonneg hA hB
  omega
noncomputable def pick (P : Prop) (a b : Int) : Int := @ite Int P (Classical.propDecidable P) a b
theorem pick_t {P : Prop} {a b : Int} (h : P) : pick P a b = a := by unfold pick; rw [if_pos h]
theorem pick_f {P : Prop} {a b : Int} (h : ¬ P) : pick P a b = b := by unfold pick; rw [if_neg h]
/-- a scan from below that keeps the best -/
noncomputable def lrF (pos : Int → Prop) (bt : Int → Int → Prop) : Nat → Int
  | 0 => -1
  | k + 1 => pick (pos k ∧ (lrF pos bt k < 0 ∨ bt k (lrF pos bt k))) k (lrF pos bt k)
theorem lrF_r {pos : Int → Prop} {bt : Int → Int → Prop} : ∀ n : Nat, lrF pos bt n = -1 ∨ (0 ≤ lrF pos bt n ∧ lrF pos bt n < n ∧ pos (lrF pos bt n))
  | 0 => Or.inl rfl
  | n + 1 => by
    by_cases h : pos n ∧ (lrF pos bt n < 0 ∨ bt n (lrF pos bt n))
    · have e : lrF pos bt (n + 1) = n := pick_t h
      rw [e]
      exact Or.inr ⟨by omega, by omega, h.1⟩
    · have e : lrF pos bt (n + 1) = lrF pos bt n := pick_f h
      rw [e]
      rcases lrF_r n with h | h
      · exact Or.inl h
      · exact Or.inr ⟨h.1, by omega, h.2.2⟩
theorem lrF_c {pos pos' : Int → Prop} {bt bt' : Int → Int → Prop} : ∀ n : Nat, (∀ r : Int, 0 ≤ r → r < n → (pos r ↔ pos' r)) → (∀ r f : Int, 0 ≤ r → r < n → 0 ≤ f → f < n → pos r → pos f → (bt r f ↔ bt' r f)) → lrF pos bt n = lrF pos' bt' n
  | 0, _, _ => rfl
  | n + 1, h1, h2 => by
    have e := lrF_c n (fun r h0 h => h1 r h0 (by omega)) (fun r f hr0 hr hf0 hf => h2 r f hr0 (by omega) hf0 (by omega))
    show pick _ _ _ = pick _ _ _
    rw [← e]
    congr 1
    refine propext ⟨fun h => ?_, fun h => ?_⟩
    · refine ⟨(h1 n (by omega) (by omega)).mp h.1, ?_⟩
      rcases h.2 with h3 | h3
      · exact Or.inl h3
      · rcases lrF_r (pos := pos) (bt := bt) n with h4 | h4
        · exact Or.inl (by omega)
        · exact Or.inr ((h2 (n : Int) _ (by omega) (by omega) h4.1 (by omega) h.1 h4.2.2).mp h3)
    · have hp := (h1 n (by omega) (by omega)).mpr h.1
      refine ⟨hp, ?_⟩
      rcases h.2 with h3 | h3
      · exact Or.inl h3
      · rcases lrF_r (pos := pos) (bt := bt) n with h4 | h4
        · exact Or.inl (by omega)
        · exact Or.inr ((h2 (n : Int) _ (by omega) (by omega) h4.1 (by omega) hp h4.2.2).mpr h3)
theorem lrF_neg {pos : Int → Prop} {bt : Int → Int → Prop} : ∀ n : Nat, lrF pos bt n < 0 ↔ ∀ r : Int, 0 ≤ r → r < n → ¬ pos r
  | 0 => ⟨fun _ r h0 h => by omega, fun _ => by show (-1 : Int) < 0; omega⟩
  | n + 1 => by
    have ih := lrF_neg (pos := pos) (bt := bt) n
    by_cases h : pos n ∧ (lrF pos bt n < 0 ∨ bt n (lrF pos bt n))
    · have e : lrF pos bt (n + 1) = n := pick_t h
      rw [e]
      exact ⟨fun z => by omega, fun z => absurd h.1 (z n (by omega) (by omega))⟩
    · have e : lrF pos bt (n + 1) = lrF pos bt n := pick_f h
      rw [e, ih]
      refine ⟨fun z r h0 hr hp => ?_, fun z r h0 hr => z r h0 (by omega)⟩
      by_cases hrn : r = n
      · subst hrn
        exact h ⟨hp, Or.inl (ih.mpr z)⟩
      · exact z r h0 (by omega) hp
/-- the first place of a kind, or -1 -/
def fstP (P : Int → Prop) (n v : Int) : Prop := (v = -1 ∧ ∀ j, 0 ≤ j → j < n → ¬ P j) ∨ (0 ≤ v ∧ v < n ∧ P v ∧ ∀ j, 0 ≤ j → j < v → ¬ P j)
theorem fstP_e (P : Int → Prop) {n : Int} (hn : 0 ≤ n) : ∃ v, fstP P n v := by
  have h : ∀ m : Nat, (∃ v, 0 ≤ v ∧ v < (m : Int) ∧ P v ∧ ∀ j, 0 ≤ j → j < v → ¬ P j) ∨ ∀ j, 0 ≤ j → j < (m : Int) → ¬ P j := by
    intro m
    induction m with
    | zero => exact Or.inr fun j h0 h => by omega
    | succ m ih =>
      rcases ih with ⟨v, h0, h1, h2, h3⟩ | ih
      · exact Or.inl ⟨v, h0, by omega, h2, h3⟩
      · by_cases hp : P m
        · exact Or.inl ⟨m, by omega, by omega, hp, fun j h0 h => ih j h0 h⟩
        · refine Or.inr fun j h0 h => ?_
          by_cases e : j = m
          · rw [e]; exact hp
          · exact ih j h0 (by omega)
  rcases h n.toNat with ⟨v, h0, h1, h2, h3⟩ | h
  · exact ⟨v, Or.inr ⟨h0, by omega, h2, h3⟩⟩
  · exact ⟨-1, Or.inl ⟨rfl, fun j h0 h1 => h j h0 (by omega)⟩⟩
theorem fstP_u {P P' : Int → Prop} {n v v' : Int} (h : fstP P n v) (h' : fstP P' n v') (he : ∀ j, 0 ≤ j → j < n → (P j ↔ P' j)) : v = v' := by
  rcases h with ⟨rfl, h⟩ | ⟨h0, h1, h2, h3⟩ <;> rcases h' with ⟨rfl, h'⟩ | ⟨h0', h1', h2', h3'⟩
  · rfl
  · exact absurd ((he _ h0' h1').mpr h2') (h _ h0' h1')
  · exact absurd ((he _ h0 h1).mp h2) (h' _ h0 h1)
  · by_cases hl : v < v'
    · exact absurd ((he _ h0 h1).mp h2) (h3' _ h0 hl)
    · by_cases hl2 : v' < v
      · exact absurd ((he _ h0' h1').mpr h2') (h3 _ h0' hl2)
      · omega
/-! the choices of a tableau: R rows, C columns, Nm the named columns, T its cells -/
def ordZ (C : Int) (T : Int → Int) (col r f : Int) : Int := T (r * 9 + C) * T (f * 9 + col) - T (f * 9 + C) * T (r * 9 + col)
noncomputable def lrZ (R C : Int) (Nm T : Int → Int) (col : Int) : Int := lrF (fun r => 0 < T (r * 9 + col)) (fun r f => ordZ C T col r f < 0 ∨ ordZ C T col r f = 0 ∧ Nm r < Nm f) R.toNat
def bestZ (R C : Int) (T : Int → Int) : Prop := ∀ j, 0 ≤ j → j < C → ¬ 0 < T (R * 9 + j)
def opnZ (R C : Int) (Nm T : Int → Int) (v : Int) : Prop := fstP (fun j => 0 < T (R * 9 + j) ∧ lrZ R C Nm T j < 0) C v
def gainZ (R C : Int) (Nm T : Int → Int) (j f : Int) : Prop := T (R * 9 + f) * T (lrZ R C Nm T f * 9 + C) * T (lrZ R C Nm T j * 9 + j) < T (R * 9 + j) * T (lrZ R C Nm T j * 9 + C) * T (lrZ R C Nm T f * 9 + f)
noncomputable def chZ (R C : Int) (Nm T : Int → Int) (rule : Int) : Int := lrF (fun j => 0 < T (R * 9 + j)) (fun j f => rule = 1 ∧ T (R * 9 + f) < T (R * 9 + j) ∨ rule = 2 ∧ gainZ R C Nm T j f) C.toNat
def tabB (R C : Int) (T : Int → Int) : Prop := (∀ r j, 0 ≤ r → r < R → 0 ≤ j → j < C → -200000 ≤ T (r * 9 + j) ∧ T (r * 9 + j) ≤ 200000) ∧ (∀ r, 0 ≤ r → r < R → -2000000 ≤ T (r * 9 + C) ∧ T (r * 9 + C) ≤ 2000000) ∧ (∀ j, 0 ≤ j → j < C → -10000000 ≤ T (R * 9 + j) ∧ T (R * 9 + j) ≤ 10000000) ∧ -1000000000 ≤ T (R * 9 + C) ∧ T (R * 9 + C) ≤ 1000000000
theorem lrZ_r {R C : Int} {Nm T : Int → Int} {col : Int} (hR : 0 ≤ R) : lrZ R C Nm T col = -1 ∨ (0 ≤ lrZ R C Nm T col ∧ lrZ R C Nm T col < R ∧ 0 < T (lrZ R C Nm T col * 9 + col)) := by
  rcases lrF_r (pos := fun r => 0 < T (r * 9 + col)) (bt := fun r f => ordZ C T col r f < 0 ∨ ordZ C T col r f = 0 ∧ Nm r < Nm f) R.toNat with h | h
  · exact Or.inl h
  · exact Or.inr ⟨h.1, by have h3 := h.2.1; rw [Int.toNat_of_nonneg hR] at h3; exact h3, h.2.2⟩
noncomputable def lrI (pos : Int → Prop) (bt : Int → Int → Prop) (j : Int) : Int := lrF pos bt j.toNat
theorem lrI_0 {pos : Int → Prop} {bt : Int → Int → Prop} : lrI pos bt 0 = -1 := rfl
theorem lrI_t {pos : Int → Prop} {bt : Int → Int → Prop} {j L : Int} (h0 : 0 ≤ j) (hL : lrI pos bt j = L) (hp : pos j) (hb : L < 0 ∨ bt j L) : lrI pos bt (j + 1) = j := by
  have e : (j + 1).toNat = j.toNat + 1 := by omega
  have e2 : ((j.toNat : Nat) : Int) = j := by omega
  unfold lrI at hL ⊢
  rw [e]
  show pick _ _ _ = _
  rw [hL, e2]
  exact pick_t ⟨hp, hb⟩
theorem lrI_f {pos : Int → Prop} {bt : Int → Int → Prop} {j L : Int} (h0 : 0 ≤ j) (hL : lrI pos bt j = L) (hb : ¬ (pos j ∧ (L < 0 ∨ bt j L))) : lrI pos bt (j + 1) = L := by
  have e : (j + 1).toNat = j.toNat + 1 := by omega
  have e2 : ((j.toNat : Nat) : Int) = j := by omega
  unfold lrI at hL ⊢
  rw [e]
  show pick _ _ _ = _
  rw [hL, e2]
  exact pick_f hb
theorem lrI_r {pos : Int → Prop} {bt : Int → Int → Prop} {j : Int} (h0 : 0 ≤ j) : lrI pos bt j = -1 ∨ (0 ≤ lrI pos bt j ∧ lrI pos bt j < j ∧ pos (lrI pos bt j)) := by
  have h := lrF_r (pos := pos) (bt := bt) j.toNat
  have e2 : ((j.toNat : Nat) : Int) = j := by omega
  rw [e2] at h
  exact h
def lsZ (T : Int → Int) (k L : Int) : Int := if L < 0 then 0 else T (L * 9 + k)
theorem lsZ_p {T : Int → Int} {k L : Int} (h : 0 ≤ L) : lsZ T k L = T (L * 9 + k) := if_neg (by omega)
theorem lsZ_n {T : Int → Int} {k : Int} : lsZ T k (-1) = 0 := rfl
theorem ordB {R C : Int} {T : Int → Int} {col r f : Int} (hB : tabB R C T) (hr : 0 ≤ r ∧ r < R) (hf : 0 ≤ f ∧ f < R) (hc : 0 ≤ col ∧ col < C) : -800000000000 ≤ T (r * 9 + C) * T (f * 9 + col) - T (f * 9 + C) * T (r * 9 + col) ∧ T (r * 9 + C) * T (f * 9 + col) - T (f * 9 + C) * T (r * 9 + col) ≤ 800000000000 := by
  have h1 := mb (hB.2.1 r hr.1 hr.2) (hB.1 f col hf.1 hf.2 hc.1 hc.2)
  have h2 := mb (hB.2.1 f hf.1 hf.2) (hB.1 r col hr.1 hr.2 hc.1 hc.2)
  omega
def tabG (R C : Int) (Nm T : Int → Int) : Prop := (0 ≤ R ∧ R ≤ 4) ∧ (0 ≤ C ∧ C ≤ 8) ∧ tabB R C T ∧ ∀ r, 0 ≤ r → r < R → R32 (Nm r)
def rmF (L S : Int → Int) : Nat → Int
  | 0 => 99
  | k + 1 => if 0 < L k then min (rmF L S k) ((S k).tdiv (L k)) else rmF L S k
def shT (sh : Nat → Option gSh) (t g1 a1 g2 a2 : Nat) : Prop := sh t = some (0, 6, [.inl 0, .inl 0, .inl 1, .inl (g1 + 2), .inl (g2 + 2)]) ∧ shG sh g1 a1 4 4 ∧ shG sh g2 a2 9 45
end CT0
section CT
variable {Φ : gwC} {hb : gwHp} {M : Nat} {sh : Nat → Option gSh} {c : Nat → Int → Int} {K : Option Value → gwHp → Prop}
variable {t g1 a1 g2 a2 t2 h1 b1 h2 b2 p g a n : Nat} {r v j z k w : Int}
theorem k_at0 (hG : shG sh g a w n) (hw : w ≤ 1000) (hk : 0 ≤ k ∧ k < w) (hi : k < n) (hn : n ≤ 1000000) (hK : K (some (vL (c a k))) (hp Φ hb M sh c)) : gw_Con Φ mX1_at none [.ref (M + g), vI 0, vI k] (hp Φ hb M sh c) K := k_at hG hw (by omega) hk (by omega) hn (by rw [Int.zero_mul, Int.zero_add]; exact hK)
theorem k_put0 (hG : shG sh g a w n) (hw : w ≤ 1000) (hk : 0 ≤ k ∧ k < w) (hi : k < n) (hn : n ≤ 1000000) (hK : K none (hp Φ hb M sh (upc c a (updZ (c a) k v)))) : gw_Con Φ mX1_put none [.ref (M + g), vI 0, vI k, vL v] (hp Φ hb M sh c) K := k_put hG hw (by omega) hk (by omega) hn (by rw [Int.zero_mul, Int.zero_add]; exact hK)
set_option maxRecDepth 100000 in
set_option maxHeartbeats 4000000 in
theorem k_entry (hT : shT sh t g1 a1 g2 a2) (hr : 0 ≤ r ∧ r ≤ 4) (hj : 0 ≤ j ∧ j ≤ 8) (hK : K (some (vL (c a2 (r * 9 + j)))) (hp Φ hb M sh c)) : gw_Con Φ mX6_entry none [.ref (M + t), vI r, vI j] (hp Φ hb M sh c) K := by
  refine gw_start okX6_entry (Nat.le_of_ble_eq_true rfl) ?_
  refine gw_aload_n dX6_entry_0 rfl rfl ?_
  refine gs_getR cl6 4 dX6_entry_1 rfl kw_195 (by decide) (hT).1 rfl ?_
  refine gw_iload_n dX6_entry_4 rfl rfl ?_
  refine gw_iload_n dX6_entry_5 rfl rfl ?_
  refine gw_V2 okX1_at dX6_entry_6 kw_450 kw_415 kw_416 (hp_o (hT.2.2).1) rfl ⟨by decide, by decide⟩ ⟨by decide, by decide⟩ (Nat.le_of_ble_eq_true rfl) (k_at hT.2.2 (by omega) (by omega) (by omega) (by omega) (by omega) ?_)
  exact gw_lret dX6_entry_9 rfl (by decide) (by decide) hK
set_option maxRecDepth 100000 in
set_option maxHeartbeats 4000000 in
theorem k_side (hT : shT sh t g1 a1 g2 a2) (hr : 0 ≤ r ∧ r ≤ 4) (hC : 0 ≤ c t 1 ∧ c t 1 ≤ 8) (hK : K (some (vL (c a2 (r * 9 + c t 1)))) (hp Φ hb M sh c)) : gw_Con Φ mX6_side none [.ref (M + t), vI r] (hp Φ hb M sh c) K := by
  refine gw_start okX6_side (Nat.le_of_ble_eq_true rfl) ?_
  refine gw_aload_n dX6_side_0 rfl rfl ?_
  refine gs_getR cl6 4 dX6_side_1 rfl kw_195 (by decide) (hT).1 rfl ?_
  refine gw_iload_n dX6_side_4 rfl rfl ?_
  refine gw_aload_n dX6_side_5 rfl rfl ?_
  refine gs_getI cl6 1 1 dX6_side_6 rfl kw_190 (by decide) (hT).1 rfl rfl ?_
  refine gw_V2 okX1_at dX6_side_9 kw_450 kw_415 kw_416 (hp_o (hT.2.2).1) rfl ⟨by decide, by decide⟩ ⟨by decide, by decide⟩ (Nat.le_of_ble_eq_true rfl) (k_at hT.2.2 (by omega) (by omega) (by omega) (by omega) (by omega) ?_)
  exact gw_lret dX6_side_12 rfl (by decide) (by decide) hK
set_option maxRecDepth 100000 in
set_option maxHeartbeats 4000000 in
theorem k_reduced (hT : shT sh t g1 a1 g2 a2) (hR : 0 ≤ c t 0 ∧ c t 0 ≤ 4) (hj : 0 ≤ j ∧ j ≤ 8) (hK : K (some (vL (c a2 (c t 0 * 9 + j)))) (hp Φ hb M sh c)) : gw_Con Φ mX6_reduced none [.ref (M + t), vI j] (hp Φ hb M sh c) K := by
  refine gw_start okX6_reduced (Nat.le_of_ble_eq_true rfl) ?_
  refine gw_aload_n dX6_reduced_0 rfl rfl ?_
  refine gs_getR cl6 4 dX6_reduced_1 rfl kw_195 (by decide) (hT).1 rfl ?_
  refine gw_aload_n dX6_reduced_4 rfl rfl ?_
  refine gs_getI cl6 0 0 dX6_reduced_5 rfl kw_188 (by decide) (hT).1 rfl rfl ?_
  refine gw_iload_n dX6_reduced_8 rfl rfl ?_
  refine gw_V2 okX1_at dX6_reduced_9 kw_450 kw_415 kw_416 (hp_o (hT.2.2).1) rfl ⟨by decide, by decide⟩ ⟨by decide, by decide⟩ (Nat.le_of_ble_eq_true rfl) (k_at hT.2.2 (by omega) (by omega) (by omega) (by omega) (by omega) ?_)
  exact gw_lret dX6_reduced_12 rfl (by decide) (by decide) hK
set_option maxRecDepth 100000 in
set_option maxHeartbeats 4000000 in
theorem k_worth (hT : shT sh t g1 a1 g2 a2) (hR : 0 ≤ c t 0 ∧ c t 0 ≤ 4) (hC : 0 ≤ c t 1 ∧ c t 1 ≤ 8) (hK : K (some (vL (-c a2 (c t 0 * 9 + c t 1)))) (hp Φ hb M sh c)) : gw_Con Φ mX6_worth none [.ref (M + t)] (hp Φ hb M sh c) K := by
  refine gw_start okX6_worth (Nat.le_of_ble_eq_true rfl) ?_
  refine gw_aload_n dX6_worth_0 rfl rfl ?_
  refine gs_getR cl6 4 dX6_worth_1 rfl kw_195 (by decide) (hT).1 rfl ?_
  refine gw_aload_n dX6_worth_4 rfl rfl ?_
  refine gs_getI cl6 0 0 dX6_worth_5 rfl kw_188 (by decide) (hT).1 rfl rfl ?_
  refine gw_aload_n dX6_worth_8 rfl rfl ?_
  refine gs_getI cl6 1 1 dX6_worth_9 rfl kw_190 (by decide) (hT).1 rfl rfl ?_
  refine gw_V2 okX1_at dX6_worth_12 kw_450 kw_415 kw_416 (hp_o (hT.2.2).1) rfl ⟨by decide, by decide⟩ ⟨by decide, by decide⟩ (Nat.le_of_ble_eq_true rfl) (k_at hT.2.2 (by omega) (by omega) (by omega) (by omega) (by omega) ?_)
  refine gw_lnegZ dX6_worth_15 rfl ?_
  exact gw_lret dX6_worth_16 rfl (by decide) (by decide) hK
set_option maxRecDepth 100000 in
set_option maxHeartbeats 4000000 in
theorem k_namedBy (hT : shT sh t g1 a1 g2 a2) (hr : 0 ≤ r ∧ r < 4) (hK : K (some (vI (c a1 r))) (hp Φ hb M sh c)) : gw_Con Φ mX6_namedBy none [.ref (M + t), vI r] (hp Φ hb M sh c) K := by
  refine gw_start okX6_namedBy (Nat.le_of_ble_eq_true rfl) ?_
  refine gw_aload_n dX6_namedBy_0 rfl rfl ?_
  refine gs_getR cl6 3 dX6_namedBy_1 rfl kw_194 (by decide) (hT).1 rfl ?_
  refine gw_iconstZ dX6_namedBy_4 rfl ?_
  refine gw_iload_n dX6_namedBy_5 rfl rfl ?_
  refine gw_V2 okX1_at dX6_namedBy_6 kw_450 kw_415 kw_416 (hp_o (hT.2.1).1) rfl ⟨by decide, by decide⟩ ⟨by decide, by decide⟩ (Nat.le_of_ble_eq_true rfl) (k_at0 hT.2.1 (by omega) (by omega) (by omega) (by omega) ?_)
  refine gw_l2iZ dX6_namedBy_9 rfl ?_
  exact gw_iret dX6_namedBy_10 rfl (by decide) (by decide) hK
set_option maxRecDepth 100000 in
set_option maxHeartbeats 4000000 in
theorem l_rowNaming (hT : shT sh t g1 a1 g2 a2) (hR : 0 ≤ c t 0 ∧ c t 0 ≤ 4) (hN : ∀ r, 0 ≤ r → r < c t 0 → R32 (c a1 r)) (hz : R32 z) (hK : ∀ v, fstP (fun r => c a1 r = z) (c t 0) v → K (some (vI v)) (hp Φ hb M sh c)) (kk : (∀ r, 0 ≤ r → r < (c t 0) → ¬ c a1 r = z) → G Φ mX6_rowNaming (gw_M Φ mX6_rowNaming K) none 0 0 27 [(0, .ref (M + t)), (1, vI z), (2, vI (c t 0))] [] (hp Φ hb M sh c)) : ∀ (m : Nat) (j : Int), 0 ≤ j → j + m = c t 0 → (∀ r, 0 ≤ r → r < j → ¬ c a1 r = z) → G Φ mX6_rowNaming (gw_M Φ mX6_rowNaming K) none 0 0 2 [(0, .ref (M + t)), (1, vI z), (2, vI j)] [] (hp Φ hb M sh c) := by
  intro m
  induction m with
  | zero =>
    intro j h0 hm hI
    obtain rfl : j = c t 0 := by omega
    refine gw_iload_n dX6_rowNaming_2 rfl rfl ?_
    refine gw_aload_n dX6_rowNaming_3 rfl rfl ?_
    refine gs_getI cl6 0 0 dX6_rowNaming_4 rfl kw_188 (by decide) (hT).1 rfl rfl ?_
    refine gw_icmp_geZ (tgt := 27) dX6_rowNaming_7 rfl (by decide) (by omega) (by omega) (fun c_7 => ?_) (fun c_7 => False.elim (by omega))
    exact gw_L (kk hI) ((lvA_c rfl (lvA_c rfl (lvA_c rfl lvA_n))))
  | succ m ih =>
    intro j h0 hm hI
    refine gw_iload_n dX6_rowNaming_2 rfl rfl ?_
    refine gw_aload_n dX6_rowNaming_3 rfl rfl ?_
    refine gs_getI cl6 0 0 dX6_rowNaming_4 rfl kw_188 (by decide) (hT).1 rfl rfl ?_
    refine gw_icmp_geZ (tgt := 27) dX6_rowNaming_7 rfl (by decide) (by omega) (by omega) (fun c_7 => False.elim (by omega)) (fun c_7 => ?_)
    refine gw_aload_n dX6_rowNaming_10 rfl rfl ?_
    refine gw_iload_n dX6_rowNaming_11 rfl rfl ?_
    refine gw_V1 okX6_namedBy dX6_rowNaming_12 kw_883 kw_769 kw_770 (hp_o (hT).1) rfl ⟨by decide, by decide⟩ ⟨by decide, by decide⟩ (Nat.le_of_ble_eq_true rfl) (k_namedBy hT (by omega) ?_)
    refine gw_iload_n dX6_rowNaming_15 rfl rfl ?_
    refine gw_icmp_neZ (tgt := 21) dX6_rowNaming_16 rfl (by decide) (hN j h0 (by omega)) hz (fun c_16 => ?_) (fun c_16 => ?_)
    · refine gw_iincZ dX6_rowNaming_21 rfl rfl (by decide) ?_
      refine gw_goto (tgt := 2) dX6_rowNaming_24 (by decide) ?_
      exact gw_L (ih (j + 1) (by omega) (by omega) (fun r hr0 hr => by
            by_cases e : r = j
            · rw [e]; assumption
            · exact hI r hr0 (by omega))) ((lvA_c rfl (lvA_c rfl (lvA_c rfl lvA_n))))
    · refine gw_iload_n dX6_rowNaming_19 rfl rfl ?_
      exact gw_iret dX6_rowNaming_20 rfl (by decide) (by decide) (hK j (Or.inr ⟨h0, by omega, by omega, hI⟩))
set_option maxRecDepth 100000 in
set_option maxHeartbeats 4000000 in
theorem k_rowNaming (hT : shT sh t g1 a1 g2 a2) (hR : 0 ≤ c t 0 ∧ c t 0 ≤ 4) (hN : ∀ r, 0 ≤ r → r < c t 0 → R32 (c a1 r)) (hz : R32 z) (hK : ∀ v, fstP (fun r => c a1 r = z) (c t 0) v → K (some (vI v)) (hp Φ hb M sh c)) : gw_Con Φ mX6_rowNaming none [.ref (M + t), vI z] (hp Φ hb M sh c) K := by
  refine gw_start okX6_rowNaming (Nat.le_of_ble_eq_true rfl) ?_
  refine gw_iconstZ dX6_rowNaming_0 rfl ?_
  refine gw_istore_n dX6_rowNaming_1 rfl (by decide) ?_
  refine gw_L (l_rowNaming hT hR hN hz hK (fun hI => ?_) (c t 0).toNat 0 (by omega) (by omega) (fun r h0 h => by omega)) ((lvA_c rfl (lvA_c rfl (lvA_c rfl lvA_n))))
  refine gw_iconstZ dX6_rowNaming_27 rfl ?_
  exact gw_iret dX6_rowNaming_28 rfl (by decide) (by decide) (hK (-1) (Or.inl ⟨rfl, hI⟩))
set_option maxRecDepth 100000 in
set_option maxHeartbeats 4000000 in
theorem l_isBest (hT : shT sh t g1 a1 g2 a2) (hR : 0 ≤ c t 0 ∧ c t 0 ≤ 4) (hC : 0 ≤ c t 1 ∧ c t 1 ≤ 8) (hB : tabB (c t 0) (c t 1) (c a2)) (hK : K (some (vI (bz (bestZ (c t 0) (c t 1) (c a2))))) (hp Φ hb M sh c)) (kk : (∀ r, 0 ≤ r → r < (c t 1) → ¬ 0 < c a2 (c t 0 * 9 + r)) → G Φ mX6_isBest (gw_M Φ mX6_isBest K) none 0 0 28 [(0, .ref (M + t)), (1, vI (c t 1))] [] (hp Φ hb M sh c)) : ∀ (m : Nat) (j : Int), 0 ≤ j → j + m = c t 1 → (∀ r, 0 ≤ r → r < j → ¬ 0 < c a2 (c t 0 * 9 + r)) → G Φ mX6_isBest (gw_M Φ mX6_isBest K) none 0 0 2 [(0, .ref (M + t)), (1, vI j)] [] (hp Φ hb M sh c) := by
  intro m
  induction m with
  | zero =>
    intro j h0 hm hI
    obtain rfl : j = c t 1 := by omega
    refine gw_iload_n dX6_isBest_2 rfl rfl ?_
    refine gw_aload_n dX6_isBest_3 rfl rfl ?_
    refine gs_getI cl6 1 1 dX6_isBest_4 rfl kw_190 (by decide) (hT).1 rfl rfl ?_
    refine gw_icmp_geZ (tgt := 28) dX6_isBest_7 rfl (by decide) (by omega) (by omega) (fun c_7 => ?_) (fun c_7 => False.elim (by omega))
    exact gw_L (kk hI) ((lvA_c rfl (lvA_c rfl lvA_n)))
  | succ m ih =>
    intro j h0 hm hI
    refine gw_iload_n dX6_isBest_2 rfl rfl ?_
    refine gw_aload_n dX6_isBest_3 rfl rfl ?_
    refine gs_getI cl6 1 1 dX6_isBest_4 rfl kw_190 (by decide) (hT).1 rfl rfl ?_
    refine gw_icmp_geZ (tgt := 28) dX6_isBest_7 rfl (by decide) (by omega) (by omega) (fun c_7 => False.elim (by omega)) (fun c_7 => ?_)
    refine gw_aload_n dX6_isBest_10 rfl rfl ?_
    refine gw_iload_n dX6_isBest_11 rfl rfl ?_
    refine gw_V1 okX6_reduced dX6_isBest_12 kw_446 kw_447 kw_448 (hp_o (hT).1) rfl ⟨by decide, by decide⟩ ⟨by decide, by decide⟩ (Nat.le_of_ble_eq_true rfl) (k_reduced hT (by omega) (by omega) ?_)
    refine gw_lconst0Z dX6_isBest_15 rfl ?_
    refine gw_lc_leZ (tgt := 22) dX6_isBest_16 rfl dX6_isBest_17 rfl (by decide) (by have := hB.2.2.1 j h0 (by omega); omega) (by omega) (fun c_16 => ?_) (fun c_16 => ?_)
    · refine gw_iincZ dX6_isBest_22 rfl rfl (by decide) ?_
      refine gw_goto (tgt := 2) dX6_isBest_25 (by decide) ?_
      exact gw_L (ih (j + 1) (by omega) (by omega) (fun r hr0 hr => by
            by_cases e : r = j
            · rw [e]; omega
            · exact hI r hr0 (by omega))) ((lvA_c rfl (lvA_c rfl lvA_n)))
    · refine gw_iconstZ dX6_isBest_20 rfl ?_
      exact gw_zret rfl dX6_isBest_21 rfl (by decide) (by decide) (by rw [bz_f (fun z => z j h0 (by omega) (by omega))] at hK; exact hK)
set_option maxRecDepth 100000 in
set_option maxHeartbeats 4000000 in
theorem k_isBest (hT : shT sh t g1 a1 g2 a2) (hR : 0 ≤ c t 0 ∧ c t 0 ≤ 4) (hC : 0 ≤ c t 1 ∧ c t 1 ≤ 8) (hB : tabB (c t 0) (c t 1) (c a2)) (hK : K (some (vI (bz (bestZ (c t 0) (c t 1) (c a2))))) (hp Φ hb M sh c)) : gw_Con Φ mX6_isBest none [.ref (M + t)] (hp Φ hb M sh c) K := by
  refine gw_start okX6_isBest (Nat.le_of_ble_eq_true rfl) ?_
  refine gw_iconstZ dX6_isBest_0 rfl ?_
  refine gw_istore_n dX6_isBest_1 rfl (by decide) ?_
  refine gw_L (l_isBest hT hR hC hB hK (fun hI => ?_) (c t 1).toNat 0 (by omega) (by omega) (fun r h0 h => by omega)) ((lvA_c rfl (lvA_c rfl lvA_n)))
  refine gw_iconstZ dX6_isBest_28 rfl ?_
  exact gw_zret rfl dX6_isBest_29 rfl (by decide) (by decide) (by rw [bz_t (show bestZ _ _ _ from hI)] at hK; exact hK)
set_option maxRecDepth 100000 in
set_option maxHeartbeats 4000000 in
theorem l_leastRow {E : gwE} (hT : shT sh t g1 a1 g2 a2) (hR : 0 ≤ c t 0 ∧ c t 0 ≤ 4) (hC : 0 ≤ c t 1 ∧ c t 1 ≤ 8) (hB : tabB (c t 0) (c t 1) (c a2)) (hN : ∀ r, 0 ≤ r → r < c t 0 → R32 (c a1 r)) (hz : 0 ≤ z ∧ z < c t 1) (kk : True → G Φ mX6_leastRow E none 0 0 122 [(0, .ref (M + t)), (1, vI z), (2, vI (lrI (fun r => 0 < c a2 (r * 9 + z)) (fun r f => ordZ (c t 1) (c a2) z r f < 0 ∨ ordZ (c t 1) (c a2) z r f = 0 ∧ c a1 r < c a1 f) (c t 0))), (3, vL (lsZ (c a2) z (lrI (fun r => 0 < c a2 (r * 9 + z)) (fun r f => ordZ (c t 1) (c a2) z r f < 0 ∨ ordZ (c t 1) (c a2) z r f = 0 ∧ c a1 r < c a1 f) (c t 0)))), (5, vL (lsZ (c a2) (c t 1) (lrI (fun r => 0 < c a2 (r * 9 + z)) (fun r f => ordZ (c t 1) (c a2) z r f < 0 ∨ ordZ (c t 1) (c a2) z r f = 0 ∧ c a1 r < c a1 f) (c t 0)))), (7, vI (c t 0))] [] (hp Φ hb M sh c)) : ∀ (m : Nat) (j : Int), 0 ≤ j → j + m = c t 0 → True → G Φ mX6_leastRow E none 0 0 10 [(0, .ref (M + t)), (1, vI z), (2, vI (lrI (fun r => 0 < c a2 (r * 9 + z)) (fun r f => ordZ (c t 1) (c a2) z r f < 0 ∨ ordZ (c t 1) (c a2) z r f = 0 ∧ c a1 r < c a1 f) j)), (3, vL (lsZ (c a2) z (lrI (fun r => 0 < c a2 (r * 9 + z)) (fun r f => ordZ (c t 1) (c a2) z r f < 0 ∨ ordZ (c t 1) (c a2) z r f = 0 ∧ c a1 r < c a1 f) j))), (5, vL (lsZ (c a2) (c t 1) (lrI (fun r => 0 < c a2 (r * 9 + z)) (fun r f => ordZ (c t 1) (c a2) z r f < 0 ∨ ordZ (c t 1) (c a2) z r f = 0 ∧ c a1 r < c a1 f) j))), (7, vI j)] [] (hp Φ hb M sh c) := by
  intro m
  induction m with
  | zero =>
    intro j h0 hm hI
    obtain rfl : j = c t 0 := by omega
    refine gw_iload dX6_leastRow_10 rfl rfl ?_
    refine gw_aload_n dX6_leastRow_12 rfl rfl ?_
    refine gs_getI cl6 0 0 dX6_leastRow_13 rfl kw_188 (by decide) (hT).1 rfl rfl ?_
    refine gw_icmp_geZ (tgt := 122) dX6_leastRow_16 rfl (by decide) (by omega) (by omega) (fun c_16 => ?_) (fun c_16 => False.elim (by omega))
    exact gw_L (kk hI) ((lvA_c rfl (lvA_c rfl (lvA_c rfl (lvA_c rfl (lvA_c rfl (lvA_c rfl lvA_n)))))))
  | succ m ih =>
    intro j h0 hm hI
    have hL := lrI_r (pos := (fun r => 0 < c a2 (r * 9 + z))) (bt := (fun r f => ordZ (c t 1) (c a2) z r f < 0 ∨ ordZ (c t 1) (c a2) z r f = 0 ∧ c a1 r < c a1 f)) h0
    generalize hLe : lrI (fun r => 0 < c a2 (r * 9 + z)) (fun r f => ordZ (c t 1) (c a2) z r f < 0 ∨ ordZ (c t 1) (c a2) z r f = 0 ∧ c a1 r < c a1 f) j = L at *
    refine gw_iload dX6_leastRow_10 rfl rfl ?_
    refine gw_aload_n dX6_leastRow_12 rfl rfl ?_
    refine gs_getI cl6 0 0 dX6_leastRow_13 rfl kw_188 (by decide) (hT).1 rfl rfl ?_
    refine gw_icmp_geZ (tgt := 122) dX6_leastRow_16 rfl (by decide) (by omega) (by omega) (fun c_16 => False.elim (by omega)) (fun c_16 => ?_)
    refine gw_aload_n dX6_leastRow_19 rfl rfl ?_
    refine gs_getR cl6 4 dX6_leastRow_20 rfl kw_195 (by decide) (hT).1 rfl ?_
    refine gw_iload dX6_leastRow_23 rfl rfl ?_
    refine gw_iload_n dX6_leastRow_25 rfl rfl ?_
    refine gw_V2 okX1_at dX6_leastRow_26 kw_450 kw_415 kw_416 (hp_o (hT.2.2).1) rfl ⟨by decide, by decide⟩ ⟨by decide, by decide⟩ (Nat.le_of_ble_eq_true rfl) (k_at hT.2.2 (by omega) (by omega) (by omega) (by omega) (by omega) ?_)
    refine gw_lstore dX6_leastRow_29 rfl (by decide) ?_
    refine gw_aload_n dX6_leastRow_31 rfl rfl ?_
    refine gs_getR cl6 4 dX6_leastRow_32 rfl kw_195 (by decide) (hT).1 rfl ?_
    refine gw_iload dX6_leastRow_35 rfl rfl ?_
    refine gw_aload_n dX6_leastRow_37 rfl rfl ?_
    refine gs_getI cl6 1 1 dX6_leastRow_38 rfl kw_190 (by decide) (hT).1 rfl rfl ?_
    refine gw_V2 okX1_at dX6_leastRow_41 kw_450 kw_415 kw_416 (hp_o (hT.2.2).1) rfl ⟨by decide, by decide⟩ ⟨by decide, by decide⟩ (Nat.le_of_ble_eq_true rfl) (k_at hT.2.2 (by omega) (by omega) (by omega) (by omega) (by omega) ?_)
    refine gw_lstore dX6_leastRow_44 rfl (by decide) ?_
    refine gw_lload dX6_leastRow_46 rfl rfl ?_
    refine gw_lload_n dX6_leastRow_48 rfl rfl ?_
    refine gw_lmulZ dX6_leastRow_49 rfl ?_
    refine gw_lload dX6_leastRow_50 rfl rfl ?_
    refine gw_lload dX6_leastRow_52 rfl rfl ?_
    refine gw_lmulZ dX6_leastRow_54 rfl ?_
    refine gw_lsubZ dX6_leastRow_55 rfl ?_
    refine gw_lstore dX6_leastRow_56 rfl (by decide) ?_
    refine gw_lload dX6_leastRow_58 rfl rfl ?_
    refine gw_lconst0Z dX6_leastRow_60 rfl ?_
    refine gw_lc_leZ (tgt := 116) dX6_leastRow_61 rfl dX6_leastRow_62 rfl (by decide) (by have := hB.1 j z h0 (by omega) hz.1 hz.2; omega) (by omega) (fun c_61 => ?_) (fun c_61 => ?_)
    · refine gw_iincZ dX6_leastRow_116 rfl rfl (by decide) ?_
      refine gw_goto (tgt := 10) dX6_leastRow_119 (by decide) ?_
      have h9 := ih (j + 1) (by omega) (by omega) trivial
      first
      | (have e9 : lrI (fun r => 0 < c a2 (r * 9 + z)) (fun r f => ordZ (c t 1) (c a2) z r f < 0 ∨ ordZ (c t 1) (c a2) z r f = 0 ∧ c a1 r < c a1 f) (j + 1) = j := lrI_t h0 hLe (by omega) (by first | (left; omega) | (right; left; assumption) | (right; right; exact ⟨by first | assumption | omega, by omega⟩))
         rw [e9, lsZ_p h0, lsZ_p h0] at h9
         exact gw_L h9 ((lvA_c rfl (lvA_c rfl (lvA_c rfl (lvA_c rfl (lvA_c rfl (lvA_c rfl lvA_n))))))))
      | (have e9 : lrI (fun r => 0 < c a2 (r * 9 + z)) (fun r f => ordZ (c t 1) (c a2) z r f < 0 ∨ ordZ (c t 1) (c a2) z r f = 0 ∧ c a1 r < c a1 f) (j + 1) = L := lrI_f h0 hLe (fun w9 => by
           have w8 : 0 < c a2 (j * 9 + z) := w9.1
           rcases w9.2 with w7 | w7 | w7
           · omega
           · have w6 : c a2 (j * 9 + c t 1) * c a2 (L * 9 + z) - c a2 (L * 9 + c t 1) * c a2 (j * 9 + z) < 0 := w7
             omega
           · have w6 : c a2 (j * 9 + c t 1) * c a2 (L * 9 + z) - c a2 (L * 9 + c t 1) * c a2 (j * 9 + z) = 0 := w7.1
             have w5 : c a1 j < c a1 L := w7.2
             omega)
         rw [e9] at h9
         simp only [lsZ_p (show (0 : Int) ≤ L by omega)] at h9
         exact gw_L h9 ((lvA_c rfl (lvA_c rfl (lvA_c rfl (lvA_c rfl (lvA_c rfl (lvA_c rfl lvA_n))))))))
      | (have e9 : lrI (fun r => 0 < c a2 (r * 9 + z)) (fun r f => ordZ (c t 1) (c a2) z r f < 0 ∨ ordZ (c t 1) (c a2) z r f = 0 ∧ c a1 r < c a1 f) (j + 1) = L := lrI_f h0 hLe (fun w9 => by
           have w8 : 0 < c a2 (j * 9 + z) := w9.1
           omega)
         rw [e9] at h9
         exact gw_L h9 ((lvA_c rfl (lvA_c rfl (lvA_c rfl (lvA_c rfl (lvA_c rfl (lvA_c rfl lvA_n))))))))
    · refine gw_iload_n dX6_leastRow_65 rfl rfl ?_
      refine gw_if_ltZ (tgt := 106) dX6_leastRow_66 rfl (by decide) (by omega) (fun c_66 => ?_) (fun c_66 => ?_)
      · refine gw_iload dX6_leastRow_106 rfl rfl ?_
        refine gw_istore_n dX6_leastRow_108 rfl (by decide) ?_
        refine gw_lload dX6_leastRow_109 rfl rfl ?_
        refine gw_lstore_n dX6_leastRow_111 rfl (by decide) ?_
        refine gw_lload dX6_leastRow_112 rfl rfl ?_
        refine gw_lstore dX6_leastRow_114 rfl (by decide) ?_
        refine gw_iincZ dX6_leastRow_116 rfl rfl (by decide) ?_
        refine gw_goto (tgt := 10) dX6_leastRow_119 (by decide) ?_
        have h9 := ih (j + 1) (by omega) (by omega) trivial
        first
        | (have e9 : lrI (fun r => 0 < c a2 (r * 9 + z)) (fun r f => ordZ (c t 1) (c a2) z r f < 0 ∨ ordZ (c t 1) (c a2) z r f = 0 ∧ c a1 r < c a1 f) (j + 1) = j := lrI_t h0 hLe (by omega) (by first | (left; omega) | (right; left; assumption) | (right; right; exact ⟨by first | assumption | omega, by omega⟩))
           rw [e9, lsZ_p h0, lsZ_p h0] at h9
           exact gw_L h9 ((lvA_c rfl (lvA_c rfl (lvA_c rfl (lvA_c rfl (lvA_c rfl (lvA_c rfl lvA_n))))))))
        | (have e9 : lrI (fun r => 0 < c a2 (r * 9 + z)) (fun r f => ordZ (c t 1) (c a2) z r f < 0 ∨ ordZ (c t 1) (c a2) z r f = 0 ∧ c a1 r < c a1 f) (j + 1) = L := lrI_f h0 hLe (fun w9 => by
             have w8 : 0 < c a2 (j * 9 + z) := w9.1
             rcases w9.2 with w7 | w7 | w7
             · omega
             · have w6 : c a2 (j * 9 + c t 1) * c a2 (L * 9 + z) - c a2 (L * 9 + c t 1) * c a2 (j * 9 + z) < 0 := w7
               omega
             · have w6 : c a2 (j * 9 + c t 1) * c a2 (L * 9 + z) - c a2 (L * 9 + c t 1) * c a2 (j * 9 + z) = 0 := w7.1
               have w5 : c a1 j < c a1 L := w7.2
               omega)
           rw [e9] at h9
           simp only [lsZ_p (show (0 : Int) ≤ L by omega)] at h9
           exact gw_L h9 ((lvA_c rfl (lvA_c rfl (lvA_c rfl (lvA_c rfl (lvA_c rfl (lvA_c rfl lvA_n))))))))
        | (have e9 : lrI (fun r => 0 < c a2 (r * 9 + z)) (fun r f => ordZ (c t 1) (c a2) z r f < 0 ∨ ordZ (c t 1) (c a2) z r f = 0 ∧ c a1 r < c a1 f) (j + 1) = L := lrI_f h0 hLe (fun w9 => by
             have w8 : 0 < c a2 (j * 9 + z) := w9.1
             omega)
           rw [e9] at h9
           exact gw_L h9 ((lvA_c rfl (lvA_c rfl (lvA_c rfl (lvA_c rfl (lvA_c rfl (lvA_c rfl lvA_n))))))))
      · simp only [lsZ_p (show (0 : Int) ≤ L by omega)]
        refine gw_lload dX6_leastRow_69 rfl rfl ?_
        refine gw_lconst0Z dX6_leastRow_71 rfl ?_
        refine gw_lc_ltZ (tgt := 106) dX6_leastRow_72 rfl dX6_leastRow_73 rfl (by decide) (by have := ordB hB (r := j) (f := L) (col := z) ⟨h0, by omega⟩ ⟨by omega, by omega⟩ hz; omega) (by omega) (fun c_72 => ?_) (fun c_72 => ?_)
        · refine gw_iload dX6_leastRow_106 rfl rfl ?_
          refine gw_istore_n dX6_leastRow_108 rfl (by decide) ?_
          refine gw_lload dX6_leastRow_109 rfl rfl ?_
          refine gw_lstore_n dX6_leastRow_111 rfl (by decide) ?_
          refine gw_lload dX6_leastRow_112 rfl rfl ?_
          refine gw_lstore dX6_leastRow_114 rfl (by decide) ?_
          refine gw_iincZ dX6_leastRow_116 rfl rfl (by decide) ?_
          refine gw_goto (tgt := 10) dX6_leastRow_119 (by decide) ?_
          have h9 := ih (j + 1) (by omega) (by omega) trivial
          first
          | (have e9 : lrI (fun r => 0 < c a2 (r * 9 + z)) (fun r f => ordZ (c t 1) (c a2) z r f < 0 ∨ ordZ (c t 1) (c a2) z r f = 0 ∧ c a1 r < c a1 f) (j + 1) = j := lrI_t h0 hLe (by omega) (by first | (left; omega) | (right; left; assumption) | (right; right; exact ⟨by first | assumption | omega, by omega⟩))
             rw [e9, lsZ_p h0, lsZ_p h0] at h9
             exact gw_L h9 ((lvA_c rfl (lvA_c rfl (lvA_c rfl (lvA_c rfl (lvA_c rfl (lvA_c rfl lvA_n))))))))
          | (have e9 : lrI (fun r => 0 < c a2 (r * 9 + z)) (fun r f => ordZ (c t 1) (c a2) z r f < 0 ∨ ordZ (c t 1) (c a2) z r f = 0 ∧ c a1 r < c a1 f) (j + 1) = L := lrI_f h0 hLe (fun w9 => by
               have w8 : 0 < c a2 (j * 9 + z) := w9.1
               rcases w9.2 with w7 | w7 | w7
               · omega
               · have w6 : c a2 (j * 9 + c t 1) * c a2 (L * 9 + z) - c a2 (L * 9 + c t 1) * c a2 (j * 9 + z) < 0 := w7
                 omega
               · have w6 : c a2 (j * 9 + c t 1) * c a2 (L * 9 + z) - c a2 (L * 9 + c t 1) * c a2 (j * 9 + z) = 0 := w7.1
                 have w5 : c a1 j < c a1 L := w7.2
                 omega)
             rw [e9] at h9
             simp only [lsZ_p (show (0 : Int) ≤ L by omega)] at h9
             exact gw_L h9 ((lvA_c rfl (lvA_c rfl (lvA_c rfl (lvA_c rfl (lvA_c rfl (lvA_c rfl lvA_n))))))))
          | (have e9 : lrI (fun r => 0 < c a2 (r * 9 + z)) (fun r f => ordZ (c t 1) (c a2) z r f < 0 ∨ ordZ (c t 1) (c a2) z r f = 0 ∧ c a1 r < c a1 f) (j + 1) = L := lrI_f h0 hLe (fun w9 => by
               have w8 : 0 < c a2 (j * 9 + z) := w9.1
               omega)
             rw [e9] at h9
             exact gw_L h9 ((lvA_c rfl (lvA_c rfl (lvA_c rfl (lvA_c rfl (lvA_c rfl (lvA_c rfl lvA_n))))))))
        · refine gw_lload dX6_leastRow_76 rfl rfl ?_
          refine gw_lconst0Z dX6_leastRow_78 rfl ?_
          refine gw_lc_neZ (tgt := 116) dX6_leastRow_79 rfl dX6_leastRow_80 rfl (by decide) (by have := ordB hB (r := j) (f := L) (col := z) ⟨h0, by omega⟩ ⟨by omega, by omega⟩ hz; omega) (by omega) (fun c_79 => ?_) (fun c_79 => ?_)
          · refine gw_iincZ dX6_leastRow_116 rfl rfl (by decide) ?_
            refine gw_goto (tgt := 10) dX6_leastRow_119 (by decide) ?_
            have h9 := ih (j + 1) (by omega) (by omega) trivial
            first
            | (have e9 : lrI (fun r => 0 < c a2 (r * 9 + z)) (fun r f => ordZ (c t 1) (c a2) z r f < 0 ∨ ordZ (c t 1) (c a2) z r f = 0 ∧ c a1 r < c a1 f) (j + 1) = j := lrI_t h0 hLe (by omega) (by first | (left; omega) | (right; left; assumption) | (right; right; exact ⟨by first | assumption | omega, by omega⟩))
               rw [e9, lsZ_p h0, lsZ_p h0] at h9
               exact gw_L h9 ((lvA_c rfl (lvA_c rfl (lvA_c rfl (lvA_c rfl (lvA_c rfl (lvA_c rfl lvA_n))))))))
            | (have e9 : lrI (fun r => 0 < c a2 (r * 9 + z)) (fun r f => ordZ (c t 1) (c a2) z r f < 0 ∨ ordZ (c t 1) (c a2) z r f = 0 ∧ c a1 r < c a1 f) (j + 1) = L := lrI_f h0 hLe (fun w9 => by
                 have w8 : 0 < c a2 (j * 9 + z) := w9.1
                 rcases w9.2 with w7 | w7 | w7
                 · omega
                 · have w6 : c a2 (j * 9 + c t 1) * c a2 (L * 9 + z) - c a2 (L * 9 + c t 1) * c a2 (j * 9 + z) < 0 := w7
                   omega
                 · have w6 : c a2 (j * 9 + c t 1) * c a2 (L * 9 + z) - c a2 (L * 9 + c t 1) * c a2 (j * 9 + z) = 0 := w7.1
                   have w5 : c a1 j < c a1 L := w7.2
                   omega)
               rw [e9] at h9
               simp only [lsZ_p (show (0 : Int) ≤ L by omega)] at h9
               exact gw_L h9 ((lvA_c rfl (lvA_c rfl (lvA_c rfl (lvA_c rfl (lvA_c rfl (lvA_c rfl lvA_n))))))))
            | (have e9 : lrI (fun r => 0 < c a2 (r * 9 + z)) (fun r f => ordZ (c t 1) (c a2) z r f < 0 ∨ ordZ (c t 1) (c a2) z r f = 0 ∧ c a1 r < c a1 f) (j + 1) = L := lrI_f h0 hLe (fun w9 => by
                 have w8 : 0 < c a2 (j * 9 + z) := w9.1
                 omega)
               rw [e9] at h9
               exact gw_L h9 ((lvA_c rfl (lvA_c rfl (lvA_c rfl (lvA_c rfl (lvA_c rfl (lvA_c rfl lvA_n))))))))
          · refine gw_aload_n dX6_leastRow_83 rfl rfl ?_
            refine gs_getR cl6 3 dX6_leastRow_84 rfl kw_194 (by decide) (hT).1 rfl ?_
            refine gw_iconstZ dX6_leastRow_87 rfl ?_
            refine gw_iload dX6_leastRow_88 rfl rfl ?_
            refine gw_V2 okX1_at dX6_leastRow_90 kw_450 kw_415 kw_416 (hp_o (hT.2.1).1) rfl ⟨by decide, by decide⟩ ⟨by decide, by decide⟩ (Nat.le_of_ble_eq_true rfl) (k_at0 hT.2.1 (by omega) (by omega) (by omega) (by omega) ?_)
            refine gw_aload_n dX6_leastRow_93 rfl rfl ?_
            refine gs_getR cl6 3 dX6_leastRow_94 rfl kw_194 (by decide) (hT).1 rfl ?_
            refine gw_iconstZ dX6_leastRow_97 rfl ?_
            refine gw_iload_n dX6_leastRow_98 rfl rfl ?_
            refine gw_V2 okX1_at dX6_leastRow_99 kw_450 kw_415 kw_416 (hp_o (hT.2.1).1) rfl ⟨by decide, by decide⟩ ⟨by decide, by decide⟩ (Nat.le_of_ble_eq_true rfl) (k_at0 hT.2.1 (by omega) (by omega) (by omega) (by omega) ?_)
            refine gw_lc_geZ (tgt := 116) dX6_leastRow_102 rfl dX6_leastRow_103 rfl (by decide) (by have := hN j h0 (by omega); omega) (by have := hN L (by omega) (by omega); omega) (fun c_102 => ?_) (fun c_102 => ?_)
            · refine gw_iincZ dX6_leastRow_116 rfl rfl (by decide) ?_
              refine gw_goto (tgt := 10) dX6_leastRow_119 (by decide) ?_
              have h9 := ih (j + 1) (by omega) (by omega) trivial
              first
              | (have e9 : lrI (fun r => 0 < c a2 (r * 9 + z)) (fun r f => ordZ (c t 1) (c a2) z r f < 0 ∨ ordZ (c t 1) (c a2) z r f = 0 ∧ c a1 r < c a1 f) (j + 1) = j := lrI_t h0 hLe (by omega) (by first | (left; omega) | (right; left; assumption) | (right; right; exact ⟨by first | assumption | omega, by omega⟩))
                 rw [e9, lsZ_p h0, lsZ_p h0] at h9
                 exact gw_L h9 ((lvA_c rfl (lvA_c rfl (lvA_c rfl (lvA_c rfl (lvA_c rfl (lvA_c rfl lvA_n))))))))
              | (have e9 : lrI (fun r => 0 < c a2 (r * 9 + z)) (fun r f => ordZ (c t 1) (c a2) z r f < 0 ∨ ordZ (c t 1) (c a2) z r f = 0 ∧ c a1 r < c a1 f) (j + 1) = L := lrI_f h0 hLe (fun w9 => by
                   have w8 : 0 < c a2 (j * 9 + z) := w9.1
                   rcases w9.2 with w7 | w7 | w7
                   · omega
                   · have w6 : c a2 (j * 9 + c t 1) * c a2 (L * 9 + z) - c a2 (L * 9 + c t 1) * c a2 (j * 9 + z) < 0 := w7
                     omega
                   · have w6 : c a2 (j * 9 + c t 1) * c a2 (L * 9 + z) - c a2 (L * 9 + c t 1) * c a2 (j * 9 + z) = 0 := w7.1
                     have w5 : c a1 j < c a1 L := w7.2
                     omega)
                 rw [e9] at h9
                 simp only [lsZ_p (show (0 : Int) ≤ L by omega)] at h9
                 exact gw_L h9 ((lvA_c rfl (lvA_c rfl (lvA_c rfl (lvA_c rfl (lvA_c rfl (lvA_c rfl lvA_n))))))))
              | (have e9 : lrI (fun r => 0 < c a2 (r * 9 + z)) (fun r f => ordZ (c t 1) (c a2) z r f < 0 ∨ ordZ (c t 1) (c a2) z r f = 0 ∧ c a1 r < c a1 f) (j + 1) = L := lrI_f h0 hLe (fun w9 => by
                   have w8 : 0 < c a2 (j * 9 + z) := w9.1
                   omega)
                 rw [e9] at h9
                 exact gw_L h9 ((lvA_c rfl (lvA_c rfl (lvA_c rfl (lvA_c rfl (lvA_c rfl (lvA_c rfl lvA_n))))))))
            · refine gw_iload dX6_leastRow_106 rfl rfl ?_
              refine gw_istore_n dX6_leastRow_108 rfl (by decide) ?_
              refine gw_lload dX6_leastRow_109 rfl rfl ?_
              refine gw_lstore_n dX6_leastRow_111 rfl (by decide) ?_
              refine gw_lload dX6_leastRow_112 rfl rfl ?_
              refine gw_lstore dX6_leastRow_114 rfl (by decide) ?_
              refine gw_iincZ dX6_leastRow_116 rfl rfl (by decide) ?_
              refine gw_goto (tgt := 10) dX6_leastRow_119 (by decide) ?_
              have h9 := ih (j + 1) (by omega) (by omega) trivial
              first
              | (have e9 : lrI (fun r => 0 < c a2 (r * 9 + z)) (fun r f => ordZ (c t 1) (c a2) z r f < 0 ∨ ordZ (c t 1) (c a2) z r f = 0 ∧ c a1 r < c a1 f) (j + 1) = j := lrI_t h0 hLe (by omega) (by first | (left; omega) | (right; left; assumption) | (right; right; exact ⟨by first | assumption | omega, by omega⟩))
                 rw [e9, lsZ_p h0, lsZ_p h0] at h9
                 exact gw_L h9 ((lvA_c rfl (lvA_c rfl (lvA_c rfl (lvA_c rfl (lvA_c rfl (lvA_c rfl lvA_n))))))))
              | (have e9 : lrI (fun r => 0 < c a2 (r * 9 + z)) (fun r f => ordZ (c t 1) (c a2) z r f < 0 ∨ ordZ (c t 1) (c a2) z r f = 0 ∧ c a1 r < c a1 f) (j + 1) = L := lrI_f h0 hLe (fun w9 => by
                   have w8 : 0 < c a2 (j * 9 + z) := w9.1
                   rcases w9.2 with w7 | w7 | w7
                   · omega
                   · have w6 : c a2 (j * 9 + c t 1) * c a2 (L * 9 + z) - c a2 (L * 9 + c t 1) * c a2 (j * 9 + z) < 0 := w7
                     omega
                   · have w6 : c a2 (j * 9 + c t 1) * c a2 (L * 9 + z) - c a2 (L * 9 + c t 1) * c a2 (j * 9 + z) = 0 := w7.1
                     have w5 : c a1 j < c a1 L := w7.2
                     omega)
                 rw [e9] at h9
                 simp only [lsZ_p (show (0 : Int) ≤ L by omega)] at h9
                 exact gw_L h9 ((lvA_c rfl (lvA_c rfl (lvA_c rfl (lvA_c rfl (lvA_c rfl (lvA_c rfl lvA_n))))))))
              | (have e9 : lrI (fun r => 0 < c a2 (r * 9 + z)) (fun r f => ordZ (c t 1) (c a2) z r f < 0 ∨ ordZ (c t 1) (c a2) z r f = 0 ∧ c a1 r < c a1 f) (j + 1) = L := lrI_f h0 hLe (fun w9 => by
                   have w8 : 0 < c a2 (j * 9 + z) := w9.1
                   omega)
                 rw [e9] at h9
                 exact gw_L h9 ((lvA_c rfl (lvA_c rfl (lvA_c rfl (lvA_c rfl (lvA_c rfl (lvA_c rfl lvA_n))))))))
set_option maxRecDepth 100000 in
set_option maxHeartbeats 4000000 in
theorem k_leastRow (hT : shT sh t g1 a1 g2 a2) (hR : 0 ≤ c t 0 ∧ c t 0 ≤ 4) (hC : 0 ≤ c t 1 ∧ c t 1 ≤ 8) (hB : tabB (c t 0) (c t 1) (c a2)) (hN : ∀ r, 0 ≤ r → r < c t 0 → R32 (c a1 r)) (hz : 0 ≤ z ∧ z < c t 1) (hK : K (some (vI (lrZ (c t 0) (c t 1) (c a1) (c a2) z))) (hp Φ hb M sh c)) : gw_Con Φ mX6_leastRow none [.ref (M + t), vI z] (hp Φ hb M sh c) K := by
  refine gw_start okX6_leastRow (Nat.le_of_ble_eq_true rfl) ?_
  refine gw_iconstZ dX6_leastRow_0 rfl ?_
  refine gw_istore_n dX6_leastRow_1 rfl (by decide) ?_
  refine gw_lconst0Z dX6_leastRow_2 rfl ?_
  refine gw_lstore_n dX6_leastRow_3 rfl (by decide) ?_
  refine gw_lconst0Z dX6_leastRow_4 rfl ?_
  refine gw_lstore dX6_leastRow_5 rfl (by decide) ?_
  refine gw_iconstZ dX6_leastRow_7 rfl ?_
  refine gw_istore dX6_leastRow_8 rfl (by decide) ?_
  refine gw_L (l_leastRow hT hR hC hB hN hz (fun hI => ?_) (c t 0).toNat 0 (by omega) (by omega) trivial) ((lvA_c rfl (lvA_c rfl (lvA_c rfl (lvA_c rfl (lvA_c rfl (lvA_c rfl lvA_n)))))))
  refine gw_iload_n dX6_leastRow_122 rfl rfl ?_
  exact gw_iret dX6_leastRow_123 rfl (by decide) (by decide) hK
set_option maxRecDepth 100000 in
set_option maxHeartbeats 4000000 in
theorem l_openColumn (hT : shT sh t g1 a1 g2 a2) (hG : tabG (c t 0) (c t 1) (c a1) (c a2)) (hK : ∀ v, opnZ (c t 0) (c t 1) (c a1) (c a2) v → K (some (vI v)) (hp Φ hb M sh c)) (kk : (∀ r, 0 ≤ r → r < (c t 1) → ¬ (0 < c a2 (c t 0 * 9 + r) ∧ lrZ (c t 0) (c t 1) (c a1) (c a2) r < 0)) → G Φ mX6_openColumn (gw_M Φ mX6_openColumn K) none 0 0 36 [(0, .ref (M + t)), (1, vI (c t 1))] [] (hp Φ hb M sh c)) : ∀ (m : Nat) (j : Int), 0 ≤ j → j + m = c t 1 → (∀ r, 0 ≤ r → r < j → ¬ (0 < c a2 (c t 0 * 9 + r) ∧ lrZ (c t 0) (c t 1) (c a1) (c a2) r < 0)) → G Φ mX6_openColumn (gw_M Φ mX6_openColumn K) none 0 0 2 [(0, .ref (M + t)), (1, vI j)] [] (hp Φ hb M sh c) := by
  have hR := hG.1
  have hC := hG.2.1
  have hB := hG.2.2.1
  have hN := hG.2.2.2
  intro m
  induction m with
  | zero =>
    intro j h0 hm hI
    obtain rfl : j = c t 1 := by omega
    refine gw_iload_n dX6_openColumn_2 rfl rfl ?_
    refine gw_aload_n dX6_openColumn_3 rfl rfl ?_
    refine gs_getI cl6 1 1 dX6_openColumn_4 rfl kw_190 (by decide) (hT).1 rfl rfl ?_
    refine gw_icmp_geZ (tgt := 36) dX6_openColumn_7 rfl (by decide) (by omega) (by omega) (fun c_7 => ?_) (fun c_7 => False.elim (by omega))
    exact gw_L (kk hI) ((lvA_c rfl (lvA_c rfl lvA_n)))
  | succ m ih =>
    intro j h0 hm hI
    refine gw_iload_n dX6_openColumn_2 rfl rfl ?_
    refine gw_aload_n dX6_openColumn_3 rfl rfl ?_
    refine gs_getI cl6 1 1 dX6_openColumn_4 rfl kw_190 (by decide) (hT).1 rfl rfl ?_
    refine gw_icmp_geZ (tgt := 36) dX6_openColumn_7 rfl (by decide) (by omega) (by omega) (fun c_7 => False.elim (by omega)) (fun c_7 => ?_)
    refine gw_aload_n dX6_openColumn_10 rfl rfl ?_
    refine gw_iload_n dX6_openColumn_11 rfl rfl ?_
    refine gw_V1 okX6_reduced dX6_openColumn_12 kw_446 kw_447 kw_448 (hp_o (hT).1) rfl ⟨by decide, by decide⟩ ⟨by decide, by decide⟩ (Nat.le_of_ble_eq_true rfl) (k_reduced hT (by omega) (by omega) ?_)
    refine gw_lconst0Z dX6_openColumn_15 rfl ?_
    refine gw_lc_leZ (tgt := 30) dX6_openColumn_16 rfl dX6_openColumn_17 rfl (by decide) (by have := hB.2.2.1 j h0 (by omega); omega) (by omega) (fun c_16 => ?_) (fun c_16 => ?_)
    · refine gw_iincZ dX6_openColumn_30 rfl rfl (by decide) ?_
      refine gw_goto (tgt := 2) dX6_openColumn_33 (by decide) ?_
      exact gw_L (ih (j + 1) (by omega) (by omega) (fun r hr0 hr => by
            by_cases e : r = j
            · rw [e]; omega
            · exact hI r hr0 (by omega))) ((lvA_c rfl (lvA_c rfl lvA_n)))
    · refine gw_aload_n dX6_openColumn_20 rfl rfl ?_
      refine gw_iload_n dX6_openColumn_21 rfl rfl ?_
      refine gw_V1 okX6_leastRow dX6_openColumn_22 kw_455 kw_456 kw_457 (hp_o (hT).1) rfl ⟨by decide, by decide⟩ ⟨by decide, by decide⟩ (Nat.le_of_ble_eq_true rfl) (k_leastRow hT hG.1 hG.2.1 hG.2.2.1 hG.2.2.2 (by omega) ?_)
      refine gw_if_geZ (tgt := 30) dX6_openColumn_25 rfl (by decide) (by have := lrZ_r (C := c t 1) (Nm := c a1) (T := c a2) (col := j) hR.1; omega) (fun c_25 => ?_) (fun c_25 => ?_)
      · refine gw_iincZ dX6_openColumn_30 rfl rfl (by decide) ?_
        refine gw_goto (tgt := 2) dX6_openColumn_33 (by decide) ?_
        exact gw_L (ih (j + 1) (by omega) (by omega) (fun r hr0 hr => by
              by_cases e : r = j
              · rw [e]; omega
              · exact hI r hr0 (by omega))) ((lvA_c rfl (lvA_c rfl lvA_n)))
      · refine gw_iload_n dX6_openColumn_28 rfl rfl ?_
        exact gw_iret dX6_openColumn_29 rfl (by decide) (by decide) (hK j (Or.inr ⟨h0, by omega, ⟨by omega, by omega⟩, hI⟩))
set_option maxRecDepth 100000 in
set_option maxHeartbeats 4000000 in
theorem k_openColumn (hT : shT sh t g1 a1 g2 a2) (hG : tabG (c t 0) (c t 1) (c a1) (c a2)) (hK : ∀ v, opnZ (c t 0) (c t 1) (c a1) (c a2) v → K (some (vI v)) (hp Φ hb M sh c)) : gw_Con Φ mX6_openColumn none [.ref (M + t)] (hp Φ hb M sh c) K := by
  have hR := hG.1
  have hC := hG.2.1
  have hB := hG.2.2.1
  have hN := hG.2.2.2
  refine gw_start okX6_openColumn (Nat.le_of_ble_eq_true rfl) ?_
  refine gw_iconstZ dX6_openColumn_0 rfl ?_
  refine gw_istore_n dX6_openColumn_1 rfl (by decide) ?_
  refine gw_L (l_openColumn hT hG hK (fun hI => ?_) (c t 1).toNat 0 (by omega) (by omega) (fun r h0 h => by omega)) ((lvA_c rfl (lvA_c rfl lvA_n)))
  refine gw_iconstZ dX6_openColumn_36 rfl ?_
  exact gw_iret dX6_openColumn_37 rfl (by decide) (by decide) (hK (-1) (Or.inl ⟨rfl, hI⟩))
set_option maxRecDepth 100000 in
set_option maxHeartbeats 4000000 in
theorem k_isOpen (hT : shT sh t g1 a1 g2 a2) (hG : tabG (c t 0) (c t 1) (c a1) (c a2)) (hK : K (some (vI (bz (¬ bestZ (c t 0) (c t 1) (c a2) ∧ opnZ (c t 0) (c t 1) (c a1) (c a2) (-1))))) (hp Φ hb M sh c)) : gw_Con Φ mX6_isOpen none [.ref (M + t)] (hp Φ hb M sh c) K := by
  have hR := hG.1
  have hC := hG.2.1
  have hB := hG.2.2.1
  have hN := hG.2.2.2
  refine gw_start okX6_isOpen (Nat.le_of_ble_eq_true rfl) ?_
  refine gw_aload_n dX6_isOpen_0 rfl rfl ?_
  refine gw_V0 okX6_isBest dX6_isOpen_1 kw_442 kw_443 kw_444 (hp_o (hT).1) rfl ⟨by decide, by decide⟩ ⟨by decide, by decide⟩ (Nat.le_of_ble_eq_true rfl) (k_isBest hT hG.1 hG.2.1 hG.2.2.1 ?_)
  refine gw_if_neB (tgt := 18) dX6_isOpen_4 rfl (by decide) (fun c_4 => ?_) (fun c_4 => ?_)
  · refine gw_iconstZ dX6_isOpen_18 rfl ?_
    exact gw_zret rfl dX6_isOpen_19 rfl (by decide) (by decide) (by
      first
      | (rw [bz_f (fun z => z.1 (by assumption))] at hK; exact hK)
      | (rw [bz_t ⟨by assumption, by
          have e : vo = -1 := by rcases hvo with ⟨e, -⟩ | ⟨e, e2, -⟩ <;> omega
          rw [e] at hvo
          exact hvo⟩] at hK
         exact hK)
      | (rw [bz_f (fun z => by
          have e := fstP_u hvo z.2 (fun j _ _ => Iff.rfl)
          omega)] at hK
         exact hK))
  · refine gw_aload_n dX6_isOpen_7 rfl rfl ?_
    refine gw_V0 okX6_openColumn dX6_isOpen_8 kw_451 kw_452 kw_453 (hp_o (hT).1) rfl ⟨by decide, by decide⟩ ⟨by decide, by decide⟩ (Nat.le_of_ble_eq_true rfl) (k_openColumn hT hG (fun vo hvo => ?_))
    refine gw_if_geZ (tgt := 18) dX6_isOpen_11 rfl (by decide) (by rcases hvo with ⟨e, -⟩ | ⟨e, e2, -⟩ <;> omega) (fun c_11 => ?_) (fun c_11 => ?_)
    · refine gw_iconstZ dX6_isOpen_18 rfl ?_
      exact gw_zret rfl dX6_isOpen_19 rfl (by decide) (by decide) (by
      first
      | (rw [bz_f (fun z => z.1 (by assumption))] at hK; exact hK)
      | (rw [bz_t ⟨by assumption, by
          have e : vo = -1 := by rcases hvo with ⟨e, -⟩ | ⟨e, e2, -⟩ <;> omega
          rw [e] at hvo
          exact hvo⟩] at hK
         exact hK)
      | (rw [bz_f (fun z => by
          have e := fstP_u hvo z.2 (fun j _ _ => Iff.rfl)
          omega)] at hK
         exact hK))
    · refine gw_iconstZ dX6_isOpen_14 rfl ?_
      refine gw_goto (tgt := 19) dX6_isOpen_15 (by decide) ?_
      exact gw_zret rfl dX6_isOpen_19 rfl (by decide) (by decide) (by
      first
      | (rw [bz_f (fun z => z.1 (by assumption))] at hK; exact hK)
      | (rw [bz_t ⟨by assumption, by
          have e : vo = -1 := by rcases hvo with ⟨e, -⟩ | ⟨e, e2, -⟩ <;> omega
          rw [e] at hvo
          exact hvo⟩] at hK
         exact hK)
      | (rw [bz_f (fun z => by
          have e := fstP_u hvo z.2 (fun j _ _ => Iff.rfl)
          omega)] at hK
         exact hK))
set_option maxRecDepth 100000 in
set_option maxHeartbeats 4000000 in
theorem k_given (hT : shT sh t g1 a1 g2 a2) (hG : tabG (c t 0) (c t 1) (c a1) (c a2)) (hz : R32 z) (hK : ∀ v, fstP (fun r => c a1 r = z) (c t 0) v → K (some (vL (if v < 0 then 0 else c a2 (v * 9 + c t 1)))) (hp Φ hb M sh c)) : gw_Con Φ mX6_given none [.ref (M + t), vI z] (hp Φ hb M sh c) K := by
  have hR := hG.1
  have hC := hG.2.1
  have hB := hG.2.2.1
  have hN := hG.2.2.2
  refine gw_start okX6_given (Nat.le_of_ble_eq_true rfl) ?_
  refine gw_aload_n dX6_given_0 rfl rfl ?_
  refine gw_iload_n dX6_given_1 rfl rfl ?_
  refine gw_V1 okX6_rowNaming dX6_given_2 kw_889 kw_880 kw_881 (hp_o (hT).1) rfl ⟨by decide, by decide⟩ ⟨by decide, by decide⟩ (Nat.le_of_ble_eq_true rfl) (k_rowNaming (hT) hG.1 hG.2.2.2 (by omega) (fun vr hvr => ?_))
  refine gw_istore_n dX6_given_5 rfl (by decide) ?_
  refine gw_iload_n dX6_given_6 rfl rfl ?_
  refine gw_if_geZ (tgt := 14) dX6_given_7 rfl (by decide) (by rcases hvr with ⟨e, -⟩ | ⟨e, e2, -⟩ <;> omega) (fun c_7 => ?_) (fun c_7 => ?_)
  · refine gw_aload_n dX6_given_14 rfl rfl ?_
    refine gw_iload_n dX6_given_15 rfl rfl ?_
    refine gw_V1 okX6_side dX6_given_16 kw_467 kw_468 kw_469 (hp_o (hT).1) rfl ⟨by decide, by decide⟩ ⟨by decide, by decide⟩ (Nat.le_of_ble_eq_true rfl) (k_side hT (by rcases hvr with ⟨e, -⟩ | ⟨e, e2, -⟩ <;> omega) hC ?_)
    exact gw_lret dX6_given_19 rfl (by decide) (by decide) (by have h9 := hK vr hvr; first | (rw [if_neg (by omega)] at h9; exact h9) | (rw [if_pos (by omega)] at h9; exact h9))
  · refine gw_lconst0Z dX6_given_10 rfl ?_
    refine gw_goto (tgt := 19) dX6_given_11 (by decide) ?_
    exact gw_lret dX6_given_19 rfl (by decide) (by decide) (by have h9 := hK vr hvr; first | (rw [if_neg (by omega)] at h9; exact h9) | (rw [if_pos (by omega)] at h9; exact h9))
set_option maxRecDepth 100000 in
set_option maxHeartbeats 4000000 in
theorem k_growth (hT : shT sh t g1 a1 g2 a2) (hG : tabG (c t 0) (c t 1) (c a1) (c a2)) (hz : R32 z) (hop : ¬ opnZ (c t 0) (c t 1) (c a1) (c a2) (-1)) (hK : ∀ w v, opnZ (c t 0) (c t 1) (c a1) (c a2) w → 0 ≤ w ∧ w < c t 1 → fstP (fun r => c a1 r = z) (c t 0) v → K (some (vL (if z = w then c t 2 else if v < 0 then 0 else -c a2 (v * 9 + w)))) (hp Φ hb M sh c)) : gw_Con Φ mX6_growth none [.ref (M + t), vI z] (hp Φ hb M sh c) K := by
  have hR := hG.1
  have hC := hG.2.1
  have hB := hG.2.2.1
  have hN := hG.2.2.2
  refine gw_start okX6_growth (Nat.le_of_ble_eq_true rfl) ?_
  refine gw_aload_n dX6_growth_0 rfl rfl ?_
  refine gw_V0 okX6_openColumn dX6_growth_1 kw_451 kw_452 kw_453 (hp_o (hT).1) rfl ⟨by decide, by decide⟩ ⟨by decide, by decide⟩ (Nat.le_of_ble_eq_true rfl) (k_openColumn hT hG (fun vo hvo => ?_))
  have hw : 0 ≤ vo ∧ vo < c t 1 := by
    rcases hvo with ⟨e, e3⟩ | ⟨e, e2, -⟩
    · exact absurd (Or.inl ⟨rfl, e3⟩) hop
    · exact ⟨e, e2⟩
  refine gw_istore_n dX6_growth_4 rfl (by decide) ?_
  refine gw_iload_n dX6_growth_5 rfl rfl ?_
  refine gw_iload_n dX6_growth_6 rfl rfl ?_
  refine gw_icmp_neZ (tgt := 15) dX6_growth_7 rfl (by decide) (by omega) (by rcases hvo with ⟨e, -⟩ | ⟨e, e2, -⟩ <;> omega) (fun c_7 => ?_) (fun c_7 => ?_)
  · refine gw_aload_n dX6_growth_15 rfl rfl ?_
    refine gw_iload_n dX6_growth_16 rfl rfl ?_
    refine gw_V1 okX6_rowNaming dX6_growth_17 kw_889 kw_880 kw_881 (hp_o (hT).1) rfl ⟨by decide, by decide⟩ ⟨by decide, by decide⟩ (Nat.le_of_ble_eq_true rfl) (k_rowNaming (hT) hG.1 hG.2.2.2 (by omega) (fun vr hvr => ?_))
    refine gw_istore_n dX6_growth_20 rfl (by decide) ?_
    refine gw_iload_n dX6_growth_21 rfl rfl ?_
    refine gw_if_geZ (tgt := 29) dX6_growth_22 rfl (by decide) (by rcases hvr with ⟨e, -⟩ | ⟨e, e2, -⟩ <;> omega) (fun c_22 => ?_) (fun c_22 => ?_)
    · refine gw_aload_n dX6_growth_29 rfl rfl ?_
      refine gw_iload_n dX6_growth_30 rfl rfl ?_
      refine gw_iload_n dX6_growth_31 rfl rfl ?_
      refine gw_V2 okX6_entry dX6_growth_32 kw_471 kw_472 kw_473 (hp_o (hT).1) rfl ⟨by decide, by decide⟩ ⟨by decide, by decide⟩ (Nat.le_of_ble_eq_true rfl) (k_entry hT (by rcases hvr with ⟨e, -⟩ | ⟨e, e2, -⟩ <;> omega) (by omega) ?_)
      refine gw_lnegZ dX6_growth_35 rfl ?_
      exact gw_lret dX6_growth_36 rfl (by decide) (by decide) (by have h9 := hK vo vr hvo hw hvr; rw [if_neg (by omega)] at h9; first | (rw [if_neg (by omega)] at h9; exact h9) | (rw [if_pos (by omega)] at h9; exact h9))
    · refine gw_lconst0Z dX6_growth_25 rfl ?_
      refine gw_goto (tgt := 36) dX6_growth_26 (by decide) ?_
      exact gw_lret dX6_growth_36 rfl (by decide) (by decide) (by have h9 := hK vo vr hvo hw hvr; rw [if_neg (by omega)] at h9; first | (rw [if_neg (by omega)] at h9; exact h9) | (rw [if_pos (by omega)] at h9; exact h9))
  · refine gw_aload_n dX6_growth_10 rfl rfl ?_
    refine gs_getL cl6 2 2 dX6_growth_11 rfl kw_192 (by decide) (hT).1 rfl rfl ?_
    exact gw_lret dX6_growth_14 rfl (by decide) (by decide) (by subst c_7; obtain ⟨vr, hvr⟩ := fstP_e (fun r => c a1 r = z) hR.1; have h9 := hK z vr hvo hw hvr; rw [if_pos rfl] at h9; exact h9)
set_option maxRecDepth 100000 in
set_option maxHeartbeats 4000000 in
theorem k_obstacle (hT : shT sh t g1 a1 g2 a2) (hG : tabG (c t 0) (c t 1) (c a1) (c a2)) (hr : 0 ≤ r ∧ r < c t 0) (hz : 0 ≤ z ∧ z < c t 1) (hK : ∀ v, (v = 1 ∧ (∃ k, 0 ≤ k ∧ k < c t 0 ∧ c a1 k = z)) ∨ ((∀ k, 0 ≤ k → k < c t 0 → ¬ c a1 k = z) ∧ (v = 2 ∧ ¬ 0 < c a2 (c t 0 * 9 + z) ∨ 0 < c a2 (c t 0 * 9 + z) ∧ (v = 3 ∧ ¬ 0 < c a2 (r * 9 + z) ∨ 0 < c a2 (r * 9 + z) ∧ (v = 4 ∧ ordZ (c t 1) (c a2) z (lrZ (c t 0) (c t 1) (c a1) (c a2) z) r < 0 ∨ v = 0 ∧ ¬ ordZ (c t 1) (c a2) z (lrZ (c t 0) (c t 1) (c a1) (c a2) z) r < 0)))) → K (some (vI v)) (hp Φ hb M sh c)) : gw_Con Φ mX6_obstacle none [.ref (M + t), vI r, vI z] (hp Φ hb M sh c) K := by
  have hR := hG.1
  have hC := hG.2.1
  have hB := hG.2.2.1
  have hN := hG.2.2.2
  refine gw_start okX6_obstacle (Nat.le_of_ble_eq_true rfl) ?_
  refine gw_aload_n dX6_obstacle_0 rfl rfl ?_
  refine gw_iload_n dX6_obstacle_1 rfl rfl ?_
  refine gw_V1 okX6_rowNaming dX6_obstacle_2 kw_889 kw_880 kw_881 (hp_o (hT).1) rfl ⟨by decide, by decide⟩ ⟨by decide, by decide⟩ (Nat.le_of_ble_eq_true rfl) (k_rowNaming (hT) hG.1 hG.2.2.2 (by omega) (fun vr hvr => ?_))
  refine gw_if_ltZ (tgt := 10) dX6_obstacle_5 rfl (by decide) (by rcases hvr with ⟨e, -⟩ | ⟨e, e2, -⟩ <;> omega) (fun c_5 => ?_) (fun c_5 => ?_)
  · refine gw_aload_n dX6_obstacle_10 rfl rfl ?_
    refine gw_iload_n dX6_obstacle_11 rfl rfl ?_
    refine gw_V1 okX6_reduced dX6_obstacle_12 kw_446 kw_447 kw_448 (hp_o (hT).1) rfl ⟨by decide, by decide⟩ ⟨by decide, by decide⟩ (Nat.le_of_ble_eq_true rfl) (k_reduced hT (by omega) (by omega) ?_)
    refine gw_lconst0Z dX6_obstacle_15 rfl ?_
    refine gw_lc_gtZ (tgt := 22) dX6_obstacle_16 rfl dX6_obstacle_17 rfl (by decide) (by have := hB.2.2.1 z hz.1 hz.2; omega) (by omega) (fun c_16 => ?_) (fun c_16 => ?_)
    · refine gw_aload_n dX6_obstacle_22 rfl rfl ?_
      refine gw_iload_n dX6_obstacle_23 rfl rfl ?_
      refine gw_iload_n dX6_obstacle_24 rfl rfl ?_
      refine gw_V2 okX6_entry dX6_obstacle_25 kw_471 kw_472 kw_473 (hp_o (hT).1) rfl ⟨by decide, by decide⟩ ⟨by decide, by decide⟩ (Nat.le_of_ble_eq_true rfl) (k_entry hT (by omega) (by omega) ?_)
      refine gw_lconst0Z dX6_obstacle_28 rfl ?_
      refine gw_lc_gtZ (tgt := 35) dX6_obstacle_29 rfl dX6_obstacle_30 rfl (by decide) (by have := hB.1 r z hr.1 hr.2 hz.1 hz.2; omega) (by omega) (fun c_29 => ?_) (fun c_29 => ?_)
      · refine gw_aload_n dX6_obstacle_35 rfl rfl ?_
        refine gw_iload_n dX6_obstacle_36 rfl rfl ?_
        refine gw_V1 okX6_leastRow dX6_obstacle_37 kw_455 kw_456 kw_457 (hp_o (hT).1) rfl ⟨by decide, by decide⟩ ⟨by decide, by decide⟩ (Nat.le_of_ble_eq_true rfl) (k_leastRow hT hG.1 hG.2.1 hG.2.2.1 hG.2.2.2 (by omega) ?_)
        have hl : 0 ≤ lrZ (c t 0) (c t 1) (c a1) (c a2) z ∧ lrZ (c t 0) (c t 1) (c a1) (c a2) z < c t 0 := by
          rcases lrZ_r (C := c t 1) (Nm := c a1) (T := c a2) (col := z) hR.1 with e | e
          · have h8 := (lrF_neg _).mp (show lrF _ _ _ < 0 by show lrZ (c t 0) (c t 1) (c a1) (c a2) z < 0; omega) r hr.1 (by omega)
            exact absurd (by omega) h8
          · exact ⟨e.1, e.2.1⟩
        generalize hle : lrZ (c t 0) (c t 1) (c a1) (c a2) z = L at *
        refine gw_istore_n dX6_obstacle_40 rfl (by decide) ?_
        refine gw_aload_n dX6_obstacle_41 rfl rfl ?_
        refine gw_iload_n dX6_obstacle_42 rfl rfl ?_
        refine gw_V1 okX6_side dX6_obstacle_43 kw_467 kw_468 kw_469 (hp_o (hT).1) rfl ⟨by decide, by decide⟩ ⟨by decide, by decide⟩ (Nat.le_of_ble_eq_true rfl) (k_side hT (by omega) (by omega) ?_)
        refine gw_aload_n dX6_obstacle_46 rfl rfl ?_
        refine gw_iload_n dX6_obstacle_47 rfl rfl ?_
        refine gw_iload_n dX6_obstacle_48 rfl rfl ?_
        refine gw_V2 okX6_entry dX6_obstacle_49 kw_471 kw_472 kw_473 (hp_o (hT).1) rfl ⟨by decide, by decide⟩ ⟨by decide, by decide⟩ (Nat.le_of_ble_eq_true rfl) (k_entry hT (by omega) (by omega) ?_)
        refine gw_lmulZ dX6_obstacle_52 rfl ?_
        refine gw_aload_n dX6_obstacle_53 rfl rfl ?_
        refine gw_iload_n dX6_obstacle_54 rfl rfl ?_
        refine gw_V1 okX6_side dX6_obstacle_55 kw_467 kw_468 kw_469 (hp_o (hT).1) rfl ⟨by decide, by decide⟩ ⟨by decide, by decide⟩ (Nat.le_of_ble_eq_true rfl) (k_side hT (by omega) (by omega) ?_)
        refine gw_aload_n dX6_obstacle_58 rfl rfl ?_
        refine gw_iload_n dX6_obstacle_59 rfl rfl ?_
        refine gw_iload_n dX6_obstacle_60 rfl rfl ?_
        refine gw_V2 okX6_entry dX6_obstacle_61 kw_471 kw_472 kw_473 (hp_o (hT).1) rfl ⟨by decide, by decide⟩ ⟨by decide, by decide⟩ (Nat.le_of_ble_eq_true rfl) (k_entry hT (by omega) (by omega) ?_)
        refine gw_lmulZ dX6_obstacle_64 rfl ?_
        refine gw_lc_geZ (tgt := 73) dX6_obstacle_65 rfl dX6_obstacle_66 rfl (by decide) (by have h7 := mb (hB.2.1 L hl.1 hl.2) (hB.1 r z hr.1 hr.2 hz.1 hz.2); omega) (by have h7 := mb (hB.2.1 r hr.1 hr.2) (hB.1 L z hl.1 hl.2 hz.1 hz.2); omega) (fun c_65 => ?_) (fun c_65 => ?_)
        · refine gw_iconstZ dX6_obstacle_73 rfl ?_
          exact gw_iret dX6_obstacle_74 rfl (by decide) (by decide) (by first | exact hK 0 (Or.inr ⟨(by rcases hvr with ⟨e, e3⟩ | ⟨e, e2, e3, -⟩; (· exact e3); omega), Or.inr ⟨by omega, Or.inr ⟨by omega, Or.inr ⟨rfl, by unfold ordZ; omega⟩⟩⟩⟩) | exact hK 4 (Or.inr ⟨(by rcases hvr with ⟨e, e3⟩ | ⟨e, e2, e3, -⟩; (· exact e3); omega), Or.inr ⟨by omega, Or.inr ⟨by omega, Or.inl ⟨rfl, by unfold ordZ; omega⟩⟩⟩⟩))
        · refine gw_iconstZ dX6_obstacle_69 rfl ?_
          refine gw_goto (tgt := 74) dX6_obstacle_70 (by decide) ?_
          exact gw_iret dX6_obstacle_74 rfl (by decide) (by decide) (by first | exact hK 0 (Or.inr ⟨(by rcases hvr with ⟨e, e3⟩ | ⟨e, e2, e3, -⟩; (· exact e3); omega), Or.inr ⟨by omega, Or.inr ⟨by omega, Or.inr ⟨rfl, by unfold ordZ; omega⟩⟩⟩⟩) | exact hK 4 (Or.inr ⟨(by rcases hvr with ⟨e, e3⟩ | ⟨e, e2, e3, -⟩; (· exact e3); omega), Or.inr ⟨by omega, Or.inr ⟨by omega, Or.inl ⟨rfl, by unfold ordZ; omega⟩⟩⟩⟩))
      · refine gw_iconstZ dX6_obstacle_33 rfl ?_
        exact gw_iret dX6_obstacle_34 rfl (by decide) (by decide) (hK 3 (Or.inr ⟨(by rcases hvr with ⟨e, e3⟩ | ⟨e, e2, e3, -⟩; (· exact e3); omega), Or.inr ⟨by omega, Or.inl ⟨rfl, by omega⟩⟩⟩))
    · refine gw_iconstZ dX6_obstacle_20 rfl ?_
      exact gw_iret dX6_obstacle_21 rfl (by decide) (by decide) (hK 2 (Or.inr ⟨(by rcases hvr with ⟨e, e3⟩ | ⟨e, e2, e3, -⟩; (· exact e3); omega), Or.inl ⟨rfl, by omega⟩⟩))
  · refine gw_iconstZ dX6_obstacle_8 rfl ?_
    exact gw_iret dX6_obstacle_9 rfl (by decide) (by decide) (hK 1 (Or.inl ⟨rfl, by rcases hvr with ⟨e, -⟩ | ⟨e, e2, e3, -⟩; (· omega); exact ⟨vr, e, e2, e3⟩⟩))
set_option maxRecDepth 100000 in
set_option maxHeartbeats 4000000 in
theorem k_gainsMore (hT : shT sh t g1 a1 g2 a2) (hG : tabG (c t 0) (c t 1) (c a1) (c a2)) (hz : 0 ≤ z ∧ z < c t 1) (hk : 0 ≤ k ∧ k < c t 1) (hlz : 0 ≤ lrZ (c t 0) (c t 1) (c a1) (c a2) z) (hlk : 0 ≤ lrZ (c t 0) (c t 1) (c a1) (c a2) k) (hK : K (some (vI (bz (gainZ (c t 0) (c t 1) (c a1) (c a2) z k)))) (hp Φ hb M sh c)) : gw_Con Φ mX6_gainsMore none [.ref (M + t), vI z, vI k] (hp Φ hb M sh c) K := by
  have hR := hG.1
  have hC := hG.2.1
  have hB := hG.2.2.1
  have hN := hG.2.2.2
  refine gw_start okX6_gainsMore (Nat.le_of_ble_eq_true rfl) ?_
  refine gw_aload_n dX6_gainsMore_0 rfl rfl ?_
  refine gw_iload_n dX6_gainsMore_1 rfl rfl ?_
  refine gw_V1 okX6_leastRow dX6_gainsMore_2 kw_455 kw_456 kw_457 (hp_o (hT).1) rfl ⟨by decide, by decide⟩ ⟨by decide, by decide⟩ (Nat.le_of_ble_eq_true rfl) (k_leastRow hT hG.1 hG.2.1 hG.2.2.1 hG.2.2.2 (by omega) ?_)
  refine gw_istore_n dX6_gainsMore_5 rfl (by decide) ?_
  refine gw_aload_n dX6_gainsMore_6 rfl rfl ?_
  refine gw_iload_n dX6_gainsMore_7 rfl rfl ?_
  refine gw_V1 okX6_leastRow dX6_gainsMore_8 kw_455 kw_456 kw_457 (hp_o (hT).1) rfl ⟨by decide, by decide⟩ ⟨by decide, by decide⟩ (Nat.le_of_ble_eq_true rfl) (k_leastRow hT hG.1 hG.2.1 hG.2.2.1 hG.2.2.2 (by omega) ?_)
  have hL1 : lrZ (c t 0) (c t 1) (c a1) (c a2) z < c t 0 := by
    rcases lrZ_r (C := c t 1) (Nm := c a1) (T := c a2) (col := z) hR.1 with e | e
    · omega
    · exact e.2.1
  have hL2 : lrZ (c t 0) (c t 1) (c a1) (c a2) k < c t 0 := by
    rcases lrZ_r (C := c t 1) (Nm := c a1) (T := c a2) (col := k) hR.1 with e | e
    · omega
    · exact e.2.1
  have hX : gainZ (c t 0) (c t 1) (c a1) (c a2) z k ↔ c a2 (c t 0 * 9 + k) * c a2 (lrZ (c t 0) (c t 1) (c a1) (c a2) k * 9 + c t 1) * c a2 (lrZ (c t 0) (c t 1) (c a1) (c a2) z * 9 + z) < c a2 (c t 0 * 9 + z) * c a2 (lrZ (c t 0) (c t 1) (c a1) (c a2) z * 9 + c t 1) * c a2 (lrZ (c t 0) (c t 1) (c a1) (c a2) k * 9 + k) := Iff.rfl
  rw [bz_i hX] at hK
  generalize hle1 : lrZ (c t 0) (c t 1) (c a1) (c a2) z = L1 at *
  generalize hle2 : lrZ (c t 0) (c t 1) (c a1) (c a2) k = L2 at *
  have h7 := mb (mb (hB.2.2.1 z hz.1 hz.2) (hB.2.1 L1 hlz hL1)) (hB.1 L2 k hlk hL2 hk.1 hk.2)
  have h8 := mb (mb (hB.2.2.1 k hk.1 hk.2) (hB.2.1 L2 hlk hL2)) (hB.1 L1 z hlz hL1 hz.1 hz.2)
  refine gw_istore dX6_gainsMore_11 rfl (by decide) ?_
  refine gw_aload_n dX6_gainsMore_13 rfl rfl ?_
  refine gw_iload_n dX6_gainsMore_14 rfl rfl ?_
  refine gw_V1 okX6_reduced dX6_gainsMore_15 kw_446 kw_447 kw_448 (hp_o (hT).1) rfl ⟨by decide, by decide⟩ ⟨by decide, by decide⟩ (Nat.le_of_ble_eq_true rfl) (k_reduced hT (by omega) (by omega) ?_)
  refine gw_aload_n dX6_gainsMore_18 rfl rfl ?_
  refine gw_iload_n dX6_gainsMore_19 rfl rfl ?_
  refine gw_V1 okX6_side dX6_gainsMore_20 kw_467 kw_468 kw_469 (hp_o (hT).1) rfl ⟨by decide, by decide⟩ ⟨by decide, by decide⟩ (Nat.le_of_ble_eq_true rfl) (k_side hT (by omega) (by omega) ?_)
  refine gw_lmulZ dX6_gainsMore_23 rfl ?_
  refine gw_aload_n dX6_gainsMore_24 rfl rfl ?_
  refine gw_iload dX6_gainsMore_25 rfl rfl ?_
  refine gw_iload_n dX6_gainsMore_27 rfl rfl ?_
  refine gw_V2 okX6_entry dX6_gainsMore_28 kw_471 kw_472 kw_473 (hp_o (hT).1) rfl ⟨by decide, by decide⟩ ⟨by decide, by decide⟩ (Nat.le_of_ble_eq_true rfl) (k_entry hT (by omega) (by omega) ?_)
  refine gw_lmulZ dX6_gainsMore_31 rfl ?_
  refine gw_lstore dX6_gainsMore_32 rfl (by decide) ?_
  refine gw_aload_n dX6_gainsMore_34 rfl rfl ?_
  refine gw_iload_n dX6_gainsMore_35 rfl rfl ?_
  refine gw_V1 okX6_reduced dX6_gainsMore_36 kw_446 kw_447 kw_448 (hp_o (hT).1) rfl ⟨by decide, by decide⟩ ⟨by decide, by decide⟩ (Nat.le_of_ble_eq_true rfl) (k_reduced hT (by omega) (by omega) ?_)
  refine gw_aload_n dX6_gainsMore_39 rfl rfl ?_
  refine gw_iload dX6_gainsMore_40 rfl rfl ?_
  refine gw_V1 okX6_side dX6_gainsMore_42 kw_467 kw_468 kw_469 (hp_o (hT).1) rfl ⟨by decide, by decide⟩ ⟨by decide, by decide⟩ (Nat.le_of_ble_eq_true rfl) (k_side hT (by omega) (by omega) ?_)
  refine gw_lmulZ dX6_gainsMore_45 rfl ?_
  refine gw_aload_n dX6_gainsMore_46 rfl rfl ?_
  refine gw_iload_n dX6_gainsMore_47 rfl rfl ?_
  refine gw_iload_n dX6_gainsMore_48 rfl rfl ?_
  refine gw_V2 okX6_entry dX6_gainsMore_49 kw_471 kw_472 kw_473 (hp_o (hT).1) rfl ⟨by decide, by decide⟩ ⟨by decide, by decide⟩ (Nat.le_of_ble_eq_true rfl) (k_entry hT (by omega) (by omega) ?_)
  refine gw_lmulZ dX6_gainsMore_52 rfl ?_
  refine gw_lstore dX6_gainsMore_53 rfl (by decide) ?_
  refine gw_lload dX6_gainsMore_55 rfl rfl ?_
  refine gw_lload dX6_gainsMore_57 rfl rfl ?_
  refine gw_lc_leZ (tgt := 67) dX6_gainsMore_59 rfl dX6_gainsMore_60 rfl (by decide) (by omega) (by omega) (fun c_59 => ?_) (fun c_59 => ?_)
  · refine gw_iconstZ dX6_gainsMore_67 rfl ?_
    exact gw_zret rfl dX6_gainsMore_68 rfl (by decide) (by decide) (by first | (rw [bz_t (by omega)] at hK; exact hK) | (rw [bz_f (by omega)] at hK; exact hK))
  · refine gw_iconstZ dX6_gainsMore_63 rfl ?_
    refine gw_goto (tgt := 68) dX6_gainsMore_64 (by decide) ?_
    exact gw_zret rfl dX6_gainsMore_68 rfl (by decide) (by decide) (by first | (rw [bz_t (by omega)] at hK; exact hK) | (rw [bz_f (by omega)] at hK; exact hK))
set_option maxRecDepth 100000 in
set_option maxHeartbeats 4000000 in
theorem l_chosenColumn {E : gwE} (hT : shT sh t g1 a1 g2 a2) (hG : tabG (c t 0) (c t 1) (c a1) (c a2)) (hz : 0 ≤ z ∧ z ≤ 2) (hop : z = 2 → ∀ j, 0 ≤ j → j < c t 1 → 0 < c a2 (c t 0 * 9 + j) → 0 ≤ lrZ (c t 0) (c t 1) (c a1) (c a2) j) (kk : True → G Φ mX6_chosenColumn E none 0 0 67 [(0, .ref (M + t)), (1, vI z), (2, vI (lrI (fun j => 0 < c a2 (c t 0 * 9 + j)) (fun j f => z = 1 ∧ c a2 (c t 0 * 9 + f) < c a2 (c t 0 * 9 + j) ∨ z = 2 ∧ gainZ (c t 0) (c t 1) (c a1) (c a2) j f) (c t 1))), (3, vI (c t 1))] [] (hp Φ hb M sh c)) : ∀ (m : Nat) (j : Int), 0 ≤ j → j + m = c t 1 → True → G Φ mX6_chosenColumn E none 0 0 4 [(0, .ref (M + t)), (1, vI z), (2, vI (lrI (fun j => 0 < c a2 (c t 0 * 9 + j)) (fun j f => z = 1 ∧ c a2 (c t 0 * 9 + f) < c a2 (c t 0 * 9 + j) ∨ z = 2 ∧ gainZ (c t 0) (c t 1) (c a1) (c a2) j f) j)), (3, vI j)] [] (hp Φ hb M sh c) := by
  have hR := hG.1
  have hC := hG.2.1
  have hB := hG.2.2.1
  have hN := hG.2.2.2
  intro m
  induction m with
  | zero =>
    intro j h0 hm hI
    obtain rfl : j = c t 1 := by omega
    refine gw_iload_n dX6_chosenColumn_4 rfl rfl ?_
    refine gw_aload_n dX6_chosenColumn_5 rfl rfl ?_
    refine gs_getI cl6 1 1 dX6_chosenColumn_6 rfl kw_190 (by decide) (hT).1 rfl rfl ?_
    refine gw_icmp_geZ (tgt := 67) dX6_chosenColumn_9 rfl (by decide) (by omega) (by omega) (fun c_9 => ?_) (fun c_9 => False.elim (by omega))
    exact gw_L (kk hI) ((lvA_c rfl (lvA_c rfl (lvA_c rfl (lvA_c rfl lvA_n)))))
  | succ m ih =>
    intro j h0 hm hI
    have hL := lrI_r (pos := (fun j => 0 < c a2 (c t 0 * 9 + j))) (bt := (fun j f => z = 1 ∧ c a2 (c t 0 * 9 + f) < c a2 (c t 0 * 9 + j) ∨ z = 2 ∧ gainZ (c t 0) (c t 1) (c a1) (c a2) j f)) h0
    generalize hLe : lrI (fun j => 0 < c a2 (c t 0 * 9 + j)) (fun j f => z = 1 ∧ c a2 (c t 0 * 9 + f) < c a2 (c t 0 * 9 + j) ∨ z = 2 ∧ gainZ (c t 0) (c t 1) (c a1) (c a2) j f) j = L at *
    refine gw_iload_n dX6_chosenColumn_4 rfl rfl ?_
    refine gw_aload_n dX6_chosenColumn_5 rfl rfl ?_
    refine gs_getI cl6 1 1 dX6_chosenColumn_6 rfl kw_190 (by decide) (hT).1 rfl rfl ?_
    refine gw_icmp_geZ (tgt := 67) dX6_chosenColumn_9 rfl (by decide) (by omega) (by omega) (fun c_9 => False.elim (by omega)) (fun c_9 => ?_)
    refine gw_aload_n dX6_chosenColumn_12 rfl rfl ?_
    refine gw_iload_n dX6_chosenColumn_13 rfl rfl ?_
    refine gw_V1 okX6_reduced dX6_chosenColumn_14 kw_446 kw_447 kw_448 (hp_o (hT).1) rfl ⟨by decide, by decide⟩ ⟨by decide, by decide⟩ (Nat.le_of_ble_eq_true rfl) (k_reduced hT (by omega) (by omega) ?_)
    refine gw_lconst0Z dX6_chosenColumn_17 rfl ?_
    refine gw_lc_leZ (tgt := 61) dX6_chosenColumn_18 rfl dX6_chosenColumn_19 rfl (by decide) (by have := hB.2.2.1 j h0 (by omega); omega) (by omega) (fun c_18 => ?_) (fun c_18 => ?_)
    · refine gw_iincZ dX6_chosenColumn_61 rfl rfl (by decide) ?_
      refine gw_goto (tgt := 4) dX6_chosenColumn_64 (by decide) ?_
      have h9 := ih (j + 1) (by omega) (by omega) trivial
      first
      | (have e9 : lrI (fun j => 0 < c a2 (c t 0 * 9 + j)) (fun j f => z = 1 ∧ c a2 (c t 0 * 9 + f) < c a2 (c t 0 * 9 + j) ∨ z = 2 ∧ gainZ (c t 0) (c t 1) (c a1) (c a2) j f) (j + 1) = j := lrI_t h0 hLe (by omega) (by first | (left; omega) | (right; left; exact ⟨by omega, by omega⟩) | (right; right; exact ⟨by omega, by assumption⟩))
         rw [e9] at h9
         exact gw_L h9 ((lvA_c rfl (lvA_c rfl (lvA_c rfl (lvA_c rfl lvA_n))))))
      | (have e9 : lrI (fun j => 0 < c a2 (c t 0 * 9 + j)) (fun j f => z = 1 ∧ c a2 (c t 0 * 9 + f) < c a2 (c t 0 * 9 + j) ∨ z = 2 ∧ gainZ (c t 0) (c t 1) (c a1) (c a2) j f) (j + 1) = L := lrI_f h0 hLe (fun w9 => by
           have w8 : 0 < c a2 (c t 0 * 9 + j) := w9.1
           rcases w9.2 with w7 | w7 | w7
           · omega
           · have w6 : c a2 (c t 0 * 9 + L) < c a2 (c t 0 * 9 + j) := w7.2
             have w5 := w7.1
             omega
           · have w5 := w7.1
             first | omega | exact absurd w7.2 (by assumption))
         rw [e9] at h9
         exact gw_L h9 ((lvA_c rfl (lvA_c rfl (lvA_c rfl (lvA_c rfl lvA_n))))))
    · refine gw_iload_n dX6_chosenColumn_22 rfl rfl ?_
      refine gw_if_ltZ (tgt := 59) dX6_chosenColumn_23 rfl (by decide) (by omega) (fun c_23 => ?_) (fun c_23 => ?_)
      · refine gw_iload_n dX6_chosenColumn_59 rfl rfl ?_
        refine gw_istore_n dX6_chosenColumn_60 rfl (by decide) ?_
        refine gw_iincZ dX6_chosenColumn_61 rfl rfl (by decide) ?_
        refine gw_goto (tgt := 4) dX6_chosenColumn_64 (by decide) ?_
        have h9 := ih (j + 1) (by omega) (by omega) trivial
        first
        | (have e9 : lrI (fun j => 0 < c a2 (c t 0 * 9 + j)) (fun j f => z = 1 ∧ c a2 (c t 0 * 9 + f) < c a2 (c t 0 * 9 + j) ∨ z = 2 ∧ gainZ (c t 0) (c t 1) (c a1) (c a2) j f) (j + 1) = j := lrI_t h0 hLe (by omega) (by first | (left; omega) | (right; left; exact ⟨by omega, by omega⟩) | (right; right; exact ⟨by omega, by assumption⟩))
           rw [e9] at h9
           exact gw_L h9 ((lvA_c rfl (lvA_c rfl (lvA_c rfl (lvA_c rfl lvA_n))))))
        | (have e9 : lrI (fun j => 0 < c a2 (c t 0 * 9 + j)) (fun j f => z = 1 ∧ c a2 (c t 0 * 9 + f) < c a2 (c t 0 * 9 + j) ∨ z = 2 ∧ gainZ (c t 0) (c t 1) (c a1) (c a2) j f) (j + 1) = L := lrI_f h0 hLe (fun w9 => by
             have w8 : 0 < c a2 (c t 0 * 9 + j) := w9.1
             rcases w9.2 with w7 | w7 | w7
             · omega
             · have w6 : c a2 (c t 0 * 9 + L) < c a2 (c t 0 * 9 + j) := w7.2
               have w5 := w7.1
               omega
             · have w5 := w7.1
               first | omega | exact absurd w7.2 (by assumption))
           rw [e9] at h9
           exact gw_L h9 ((lvA_c rfl (lvA_c rfl (lvA_c rfl (lvA_c rfl lvA_n))))))
      · have hLp : 0 < c a2 (c t 0 * 9 + L) := by
          rcases hL with e | e
          · omega
          · exact e.2.2
        refine gw_iload_n dX6_chosenColumn_26 rfl rfl ?_
        refine gw_iconstZ dX6_chosenColumn_27 rfl ?_
        refine gw_icmp_neZ (tgt := 45) dX6_chosenColumn_28 rfl (by decide) (by omega) (by omega) (fun c_28 => ?_) (fun c_28 => ?_)
        · refine gw_iload_n dX6_chosenColumn_45 rfl rfl ?_
          refine gw_iconstZ dX6_chosenColumn_46 rfl ?_
          refine gw_icmp_neZ (tgt := 61) dX6_chosenColumn_47 rfl (by decide) (by omega) (by omega) (fun c_47 => ?_) (fun c_47 => ?_)
          · refine gw_iincZ dX6_chosenColumn_61 rfl rfl (by decide) ?_
            refine gw_goto (tgt := 4) dX6_chosenColumn_64 (by decide) ?_
            have h9 := ih (j + 1) (by omega) (by omega) trivial
            first
            | (have e9 : lrI (fun j => 0 < c a2 (c t 0 * 9 + j)) (fun j f => z = 1 ∧ c a2 (c t 0 * 9 + f) < c a2 (c t 0 * 9 + j) ∨ z = 2 ∧ gainZ (c t 0) (c t 1) (c a1) (c a2) j f) (j + 1) = j := lrI_t h0 hLe (by omega) (by first | (left; omega) | (right; left; exact ⟨by omega, by omega⟩) | (right; right; exact ⟨by omega, by assumption⟩))
               rw [e9] at h9
               exact gw_L h9 ((lvA_c rfl (lvA_c rfl (lvA_c rfl (lvA_c rfl lvA_n))))))
            | (have e9 : lrI (fun j => 0 < c a2 (c t 0 * 9 + j)) (fun j f => z = 1 ∧ c a2 (c t 0 * 9 + f) < c a2 (c t 0 * 9 + j) ∨ z = 2 ∧ gainZ (c t 0) (c t 1) (c a1) (c a2) j f) (j + 1) = L := lrI_f h0 hLe (fun w9 => by
                 have w8 : 0 < c a2 (c t 0 * 9 + j) := w9.1
                 rcases w9.2 with w7 | w7 | w7
                 · omega
                 · have w6 : c a2 (c t 0 * 9 + L) < c a2 (c t 0 * 9 + j) := w7.2
                   have w5 := w7.1
                   omega
                 · have w5 := w7.1
                   first | omega | exact absurd w7.2 (by assumption))
               rw [e9] at h9
               exact gw_L h9 ((lvA_c rfl (lvA_c rfl (lvA_c rfl (lvA_c rfl lvA_n))))))
          · refine gw_aload_n dX6_chosenColumn_50 rfl rfl ?_
            refine gw_iload_n dX6_chosenColumn_51 rfl rfl ?_
            refine gw_iload_n dX6_chosenColumn_52 rfl rfl ?_
            refine gw_V2 okX6_gainsMore dX6_chosenColumn_53 kw_463 kw_465 kw_2 (hp_o (hT).1) rfl ⟨by decide, by decide⟩ ⟨by decide, by decide⟩ (Nat.le_of_ble_eq_true rfl) (k_gainsMore (hT) hG ⟨h0, by omega⟩ ⟨by omega, by omega⟩ (hop c_47 j h0 (by omega) (by omega)) (hop c_47 L (by omega) (by omega) hLp) ?_)
            refine gw_if_eqB (tgt := 61) dX6_chosenColumn_56 rfl (by decide) (fun c_56 => ?_) (fun c_56 => ?_)
            · refine gw_iincZ dX6_chosenColumn_61 rfl rfl (by decide) ?_
              refine gw_goto (tgt := 4) dX6_chosenColumn_64 (by decide) ?_
              have h9 := ih (j + 1) (by omega) (by omega) trivial
              first
              | (have e9 : lrI (fun j => 0 < c a2 (c t 0 * 9 + j)) (fun j f => z = 1 ∧ c a2 (c t 0 * 9 + f) < c a2 (c t 0 * 9 + j) ∨ z = 2 ∧ gainZ (c t 0) (c t 1) (c a1) (c a2) j f) (j + 1) = j := lrI_t h0 hLe (by omega) (by first | (left; omega) | (right; left; exact ⟨by omega, by omega⟩) | (right; right; exact ⟨by omega, by assumption⟩))
                 rw [e9] at h9
                 exact gw_L h9 ((lvA_c rfl (lvA_c rfl (lvA_c rfl (lvA_c rfl lvA_n))))))
              | (have e9 : lrI (fun j => 0 < c a2 (c t 0 * 9 + j)) (fun j f => z = 1 ∧ c a2 (c t 0 * 9 + f) < c a2 (c t 0 * 9 + j) ∨ z = 2 ∧ gainZ (c t 0) (c t 1) (c a1) (c a2) j f) (j + 1) = L := lrI_f h0 hLe (fun w9 => by
                   have w8 : 0 < c a2 (c t 0 * 9 + j) := w9.1
                   rcases w9.2 with w7 | w7 | w7
                   · omega
                   · have w6 : c a2 (c t 0 * 9 + L) < c a2 (c t 0 * 9 + j) := w7.2
                     have w5 := w7.1
                     omega
                   · have w5 := w7.1
                     first | omega | exact absurd w7.2 (by assumption))
                 rw [e9] at h9
                 exact gw_L h9 ((lvA_c rfl (lvA_c rfl (lvA_c rfl (lvA_c rfl lvA_n))))))
            · refine gw_iload_n dX6_chosenColumn_59 rfl rfl ?_
              refine gw_istore_n dX6_chosenColumn_60 rfl (by decide) ?_
              refine gw_iincZ dX6_chosenColumn_61 rfl rfl (by decide) ?_
              refine gw_goto (tgt := 4) dX6_chosenColumn_64 (by decide) ?_
              have h9 := ih (j + 1) (by omega) (by omega) trivial
              first
              | (have e9 : lrI (fun j => 0 < c a2 (c t 0 * 9 + j)) (fun j f => z = 1 ∧ c a2 (c t 0 * 9 + f) < c a2 (c t 0 * 9 + j) ∨ z = 2 ∧ gainZ (c t 0) (c t 1) (c a1) (c a2) j f) (j + 1) = j := lrI_t h0 hLe (by omega) (by first | (left; omega) | (right; left; exact ⟨by omega, by omega⟩) | (right; right; exact ⟨by omega, by assumption⟩))
                 rw [e9] at h9
                 exact gw_L h9 ((lvA_c rfl (lvA_c rfl (lvA_c rfl (lvA_c rfl lvA_n))))))
              | (have e9 : lrI (fun j => 0 < c a2 (c t 0 * 9 + j)) (fun j f => z = 1 ∧ c a2 (c t 0 * 9 + f) < c a2 (c t 0 * 9 + j) ∨ z = 2 ∧ gainZ (c t 0) (c t 1) (c a1) (c a2) j f) (j + 1) = L := lrI_f h0 hLe (fun w9 => by
                   have w8 : 0 < c a2 (c t 0 * 9 + j) := w9.1
                   rcases w9.2 with w7 | w7 | w7
                   · omega
                   · have w6 : c a2 (c t 0 * 9 + L) < c a2 (c t 0 * 9 + j) := w7.2
                     have w5 := w7.1
                     omega
                   · have w5 := w7.1
                     first | omega | exact absurd w7.2 (by assumption))
                 rw [e9] at h9
                 exact gw_L h9 ((lvA_c rfl (lvA_c rfl (lvA_c rfl (lvA_c rfl lvA_n))))))
        · refine gw_aload_n dX6_chosenColumn_31 rfl rfl ?_
          refine gw_iload_n dX6_chosenColumn_32 rfl rfl ?_
          refine gw_V1 okX6_reduced dX6_chosenColumn_33 kw_446 kw_447 kw_448 (hp_o (hT).1) rfl ⟨by decide, by decide⟩ ⟨by decide, by decide⟩ (Nat.le_of_ble_eq_true rfl) (k_reduced hT (by omega) (by omega) ?_)
          refine gw_aload_n dX6_chosenColumn_36 rfl rfl ?_
          refine gw_iload_n dX6_chosenColumn_37 rfl rfl ?_
          refine gw_V1 okX6_reduced dX6_chosenColumn_38 kw_446 kw_447 kw_448 (hp_o (hT).1) rfl ⟨by decide, by decide⟩ ⟨by decide, by decide⟩ (Nat.le_of_ble_eq_true rfl) (k_reduced hT (by omega) (by omega) ?_)
          refine gw_lc_gtZ (tgt := 59) dX6_chosenColumn_41 rfl dX6_chosenColumn_42 rfl (by decide) (by have := hB.2.2.1 j h0 (by omega); omega) (by have := hB.2.2.1 L (by omega) (by omega); omega) (fun c_41 => ?_) (fun c_41 => ?_)
          · refine gw_iload_n dX6_chosenColumn_59 rfl rfl ?_
            refine gw_istore_n dX6_chosenColumn_60 rfl (by decide) ?_
            refine gw_iincZ dX6_chosenColumn_61 rfl rfl (by decide) ?_
            refine gw_goto (tgt := 4) dX6_chosenColumn_64 (by decide) ?_
            have h9 := ih (j + 1) (by omega) (by omega) trivial
            first
            | (have e9 : lrI (fun j => 0 < c a2 (c t 0 * 9 + j)) (fun j f => z = 1 ∧ c a2 (c t 0 * 9 + f) < c a2 (c t 0 * 9 + j) ∨ z = 2 ∧ gainZ (c t 0) (c t 1) (c a1) (c a2) j f) (j + 1) = j := lrI_t h0 hLe (by omega) (by first | (left; omega) | (right; left; exact ⟨by omega, by omega⟩) | (right; right; exact ⟨by omega, by assumption⟩))
               rw [e9] at h9
               exact gw_L h9 ((lvA_c rfl (lvA_c rfl (lvA_c rfl (lvA_c rfl lvA_n))))))
            | (have e9 : lrI (fun j => 0 < c a2 (c t 0 * 9 + j)) (fun j f => z = 1 ∧ c a2 (c t 0 * 9 + f) < c a2 (c t 0 * 9 + j) ∨ z = 2 ∧ gainZ (c t 0) (c t 1) (c a1) (c a2) j f) (j + 1) = L := lrI_f h0 hLe (fun w9 => by
                 have w8 : 0 < c a2 (c t 0 * 9 + j) := w9.1
                 rcases w9.2 with w7 | w7 | w7
                 · omega
                 · have w6 : c a2 (c t 0 * 9 + L) < c a2 (c t 0 * 9 + j) := w7.2
                   have w5 := w7.1
                   omega
                 · have w5 := w7.1
                   first | omega | exact absurd w7.2 (by assumption))
               rw [e9] at h9
               exact gw_L h9 ((lvA_c rfl (lvA_c rfl (lvA_c rfl (lvA_c rfl lvA_n))))))
          · refine gw_iload_n dX6_chosenColumn_45 rfl rfl ?_
            refine gw_iconstZ dX6_chosenColumn_46 rfl ?_
            refine gw_icmp_neZ (tgt := 61) dX6_chosenColumn_47 rfl (by decide) (by omega) (by omega) (fun c_47 => ?_) (fun c_47 => ?_)
            · refine gw_iincZ dX6_chosenColumn_61 rfl rfl (by decide) ?_
              refine gw_goto (tgt := 4) dX6_chosenColumn_64 (by decide) ?_
              have h9 := ih (j + 1) (by omega) (by omega) trivial
              first
              | (have e9 : lrI (fun j => 0 < c a2 (c t 0 * 9 + j)) (fun j f => z = 1 ∧ c a2 (c t 0 * 9 + f) < c a2 (c t 0 * 9 + j) ∨ z = 2 ∧ gainZ (c t 0) (c t 1) (c a1) (c a2) j f) (j + 1) = j := lrI_t h0 hLe (by omega) (by first | (left; omega) | (right; left; exact ⟨by omega, by omega⟩) | (right; right; exact ⟨by omega, by assumption⟩))
                 rw [e9] at h9
                 exact gw_L h9 ((lvA_c rfl (lvA_c rfl (lvA_c rfl (lvA_c rfl lvA_n))))))
              | (have e9 : lrI (fun j => 0 < c a2 (c t 0 * 9 + j)) (fun j f => z = 1 ∧ c a2 (c t 0 * 9 + f) < c a2 (c t 0 * 9 + j) ∨ z = 2 ∧ gainZ (c t 0) (c t 1) (c a1) (c a2) j f) (j + 1) = L := lrI_f h0 hLe (fun w9 => by
                   have w8 : 0 < c a2 (c t 0 * 9 + j) := w9.1
                   rcases w9.2 with w7 | w7 | w7
                   · omega
                   · have w6 : c a2 (c t 0 * 9 + L) < c a2 (c t 0 * 9 + j) := w7.2
                     have w5 := w7.1
                     omega
                   · have w5 := w7.1
                     first | omega | exact absurd w7.2 (by assumption))
                 rw [e9] at h9
                 exact gw_L h9 ((lvA_c rfl (lvA_c rfl (lvA_c rfl (lvA_c rfl lvA_n))))))
            · refine gw_aload_n dX6_chosenColumn_50 rfl rfl ?_
              refine gw_iload_n dX6_chosenColumn_51 rfl rfl ?_
              refine gw_iload_n dX6_chosenColumn_52 rfl rfl ?_
              refine gw_V2 okX6_gainsMore dX6_chosenColumn_53 kw_463 kw_465 kw_2 (hp_o (hT).1) rfl ⟨by decide, by decide⟩ ⟨by decide, by decide⟩ (Nat.le_of_ble_eq_true rfl) (k_gainsMore (hT) hG ⟨h0, by omega⟩ ⟨by omega, by omega⟩ (hop c_47 j h0 (by omega) (by omega)) (hop c_47 L (by omega) (by omega) hLp) ?_)
              refine gw_if_eqB (tgt := 61) dX6_chosenColumn_56 rfl (by decide) (fun c_56 => ?_) (fun c_56 => ?_)
              · refine gw_iincZ dX6_chosenColumn_61 rfl rfl (by decide) ?_
                refine gw_goto (tgt := 4) dX6_chosenColumn_64 (by decide) ?_
                have h9 := ih (j + 1) (by omega) (by omega) trivial
                first
                | (have e9 : lrI (fun j => 0 < c a2 (c t 0 * 9 + j)) (fun j f => z = 1 ∧ c a2 (c t 0 * 9 + f) < c a2 (c t 0 * 9 + j) ∨ z = 2 ∧ gainZ (c t 0) (c t 1) (c a1) (c a2) j f) (j + 1) = j := lrI_t h0 hLe (by omega) (by first | (left; omega) | (right; left; exact ⟨by omega, by omega⟩) | (right; right; exact ⟨by omega, by assumption⟩))
                   rw [e9] at h9
                   exact gw_L h9 ((lvA_c rfl (lvA_c rfl (lvA_c rfl (lvA_c rfl lvA_n))))))
                | (have e9 : lrI (fun j => 0 < c a2 (c t 0 * 9 + j)) (fun j f => z = 1 ∧ c a2 (c t 0 * 9 + f) < c a2 (c t 0 * 9 + j) ∨ z = 2 ∧ gainZ (c t 0) (c t 1) (c a1) (c a2) j f) (j + 1) = L := lrI_f h0 hLe (fun w9 => by
                     have w8 : 0 < c a2 (c t 0 * 9 + j) := w9.1
                     rcases w9.2 with w7 | w7 | w7
                     · omega
                     · have w6 : c a2 (c t 0 * 9 + L) < c a2 (c t 0 * 9 + j) := w7.2
                       have w5 := w7.1
                       omega
                     · have w5 := w7.1
                       first | omega | exact absurd w7.2 (by assumption))
                   rw [e9] at h9
                   exact gw_L h9 ((lvA_c rfl (lvA_c rfl (lvA_c rfl (lvA_c rfl lvA_n))))))
              · refine gw_iload_n dX6_chosenColumn_59 rfl rfl ?_
                refine gw_istore_n dX6_chosenColumn_60 rfl (by decide) ?_
                refine gw_iincZ dX6_chosenColumn_61 rfl rfl (by decide) ?_
                refine gw_goto (tgt := 4) dX6_chosenColumn_64 (by decide) ?_
                have h9 := ih (j + 1) (by omega) (by omega) trivial
                first
                | (have e9 : lrI (fun j => 0 < c a2 (c t 0 * 9 + j)) (fun j f => z = 1 ∧ c a2 (c t 0 * 9 + f) < c a2 (c t 0 * 9 + j) ∨ z = 2 ∧ gainZ (c t 0) (c t 1) (c a1) (c a2) j f) (j + 1) = j := lrI_t h0 hLe (by omega) (by first | (left; omega) | (right; left; exact ⟨by omega, by omega⟩) | (right; right; exact ⟨by omega, by assumption⟩))
                   rw [e9] at h9
                   exact gw_L h9 ((lvA_c rfl (lvA_c rfl (lvA_c rfl (lvA_c rfl lvA_n))))))
                | (have e9 : lrI (fun j => 0 < c a2 (c t 0 * 9 + j)) (fun j f => z = 1 ∧ c a2 (c t 0 * 9 + f) < c a2 (c t 0 * 9 + j) ∨ z = 2 ∧ gainZ (c t 0) (c t 1) (c a1) (c a2) j f) (j + 1) = L := lrI_f h0 hLe (fun w9 => by
                     have w8 : 0 < c a2 (c t 0 * 9 + j) := w9.1
                     rcases w9.2 with w7 | w7 | w7
                     · omega
                     · have w6 : c a2 (c t 0 * 9 + L) < c a2 (c t 0 * 9 + j) := w7.2
                       have w5 := w7.1
                       omega
                     · have w5 := w7.1
                       first | omega | exact absurd w7.2 (by assumption))
                   rw [e9] at h9
                   exact gw_L h9 ((lvA_c rfl (lvA_c rfl (lvA_c rfl (lvA_c rfl lvA_n))))))
set_option maxRecDepth 100000 in
set_option maxHeartbeats 4000000 in
theorem k_chosenColumn (hT : shT sh t g1 a1 g2 a2) (hG : tabG (c t 0) (c t 1) (c a1) (c a2)) (hz : 0 ≤ z ∧ z ≤ 2) (hop : z = 2 → ∀ j, 0 ≤ j → j < c t 1 → 0 < c a2 (c t 0 * 9 + j) → 0 ≤ lrZ (c t 0) (c t 1) (c a1) (c a2) j) (hK : K (some (vI (chZ (c t 0) (c t 1) (c a1) (c a2) z))) (hp Φ hb M sh c)) : gw_Con Φ mX6_chosenColumn none [.ref (M + t), vI z] (hp Φ hb M sh c) K := by
  have hR := hG.1
  have hC := hG.2.1
  have hB := hG.2.2.1
  have hN := hG.2.2.2
  refine gw_start okX6_chosenColumn (Nat.le_of_ble_eq_true rfl) ?_
  refine gw_iconstZ dX6_chosenColumn_0 rfl ?_
  refine gw_istore_n dX6_chosenColumn_1 rfl (by decide) ?_
  refine gw_iconstZ dX6_chosenColumn_2 rfl ?_
  refine gw_istore_n dX6_chosenColumn_3 rfl (by decide) ?_
  refine gw_L (l_chosenColumn hT hG hz hop (fun hI => ?_) (c t 1).toNat 0 (by omega) (by omega) trivial) ((lvA_c rfl (lvA_c rfl (lvA_c rfl (lvA_c rfl lvA_n)))))
  refine gw_iload_n dX6_chosenColumn_67 rfl rfl ?_
  exact gw_iret dX6_chosenColumn_68 rfl (by decide) (by decide) hK
theorem rmF_s {L S : Int → Int} {j : Int} (h0 : 0 ≤ j) : rmF L S (j + 1).toNat = if 0 < L j then min (rmF L S j.toNat) ((S j).tdiv (L j)) else rmF L S j.toNat := by
  have e : (j + 1).toNat = j.toNat + 1 := by omega
  have e2 : ((j.toNat : Nat) : Int) = j := by omega
  rw [e]
  show (if 0 < L (j.toNat : Nat) then _ else _) = _
  rw [e2]
theorem tdivB {a b A : Int} (ha : -A ≤ a ∧ a ≤ A) (hb : 0 < b) : -A ≤ a.tdiv b ∧ a.tdiv b ≤ A := by
  have h := Int.natAbs_tdiv_le_natAbs a b
  omega
theorem rmF_r {L S : Int → Int} {A : Int} (hA : 99 ≤ A) : ∀ n : Nat, (∀ r : Int, 0 ≤ r → r < n → -A ≤ S r ∧ S r ≤ A) → -A ≤ rmF L S n ∧ rmF L S n ≤ 99
  | 0, _ => by show -A ≤ (99 : Int) ∧ (99 : Int) ≤ 99; omega
  | n + 1, h => by
    have ih := rmF_r (L := L) hA n (fun r h0 h1 => h r h0 (by omega))
    show -A ≤ (if 0 < L n then _ else _) ∧ (if 0 < L n then _ else _) ≤ 99
    by_cases hl : 0 < L n
    · have h8 := tdivB (h n (by omega) (by omega)) hl
      rw [if_pos hl]
      omega
    · rw [if_neg hl]
      exact ih
set_option maxRecDepth 100000 in
set_option maxHeartbeats 4000000 in
theorem l_room {E : gwE} (hT : shT sh t g1 a1 g2 a2) (hG : tabG (c t 0) (c t 1) (c a1) (c a2)) (hz : 0 ≤ z ∧ z < c t 1) (hw : w = 1 ∨ w = -1) (kk : True → G Φ mX6_room E none 0 0 55 [(0, .ref (M + t)), (1, vI z), (2, vI w), (3, vL (rmF (fun r => w * c a2 (r * 9 + z)) (fun r => c a2 (r * 9 + c t 1)) ((c t 0)).toNat)), (5, vI (c t 0))] [] (hp Φ hb M sh c)) : ∀ (m : Nat) (j : Int), 0 ≤ j → j + m = c t 0 → True → G Φ mX6_room E none 0 0 7 [(0, .ref (M + t)), (1, vI z), (2, vI w), (3, vL (rmF (fun r => w * c a2 (r * 9 + z)) (fun r => c a2 (r * 9 + c t 1)) (j).toNat)), (5, vI j)] [] (hp Φ hb M sh c) := by
  have hR := hG.1
  have hC := hG.2.1
  have hB := hG.2.2.1
  have hN := hG.2.2.2
  intro m
  induction m with
  | zero =>
    intro j h0 hm hI
    obtain rfl : j = c t 0 := by omega
    refine gw_iload dX6_room_7 rfl rfl ?_
    refine gw_aload_n dX6_room_9 rfl rfl ?_
    refine gs_getI cl6 0 0 dX6_room_10 rfl kw_188 (by decide) (hT).1 rfl rfl ?_
    refine gw_icmp_geZ (tgt := 55) dX6_room_13 rfl (by decide) (by omega) (by omega) (fun c_13 => ?_) (fun c_13 => False.elim (by omega))
    exact gw_L (kk hI) ((lvA_c rfl (lvA_c rfl (lvA_c rfl (lvA_c rfl (lvA_c rfl lvA_n))))))
  | succ m ih =>
    intro j h0 hm hI
    have hM := rmF_r (L := (fun r => w * c a2 (r * 9 + z))) (S := (fun r => c a2 (r * 9 + c t 1))) (A := 2000000) (by omega) j.toNat (fun r h0 h => hB.2.1 r h0 (by omega))
    have h7 := hB.1 j z h0 (by omega) hz.1 hz.2
    have h6 := hB.2.1 j h0 (by omega)
    have h5 : -200000 ≤ w * c a2 (j * 9 + z) ∧ w * c a2 (j * 9 + z) ≤ 200000 := by rcases hw with rfl | rfl <;> omega
    have h9 := ih (j + 1) (by omega) (by omega) trivial
    rw [rmF_s h0] at h9
    revert h9
    generalize rmF (fun r => w * c a2 (r * 9 + z)) (fun r => c a2 (r * 9 + c t 1)) j.toNat = R9 at *
    intro h9
    refine gw_iload dX6_room_7 rfl rfl ?_
    refine gw_aload_n dX6_room_9 rfl rfl ?_
    refine gs_getI cl6 0 0 dX6_room_10 rfl kw_188 (by decide) (hT).1 rfl rfl ?_
    refine gw_icmp_geZ (tgt := 55) dX6_room_13 rfl (by decide) (by omega) (by omega) (fun c_13 => False.elim (by omega)) (fun c_13 => ?_)
    refine gw_iload_n dX6_room_16 rfl rfl ?_
    refine gw_i2lZ dX6_room_17 rfl (by omega) ?_
    refine gw_aload_n dX6_room_18 rfl rfl ?_
    refine gw_iload dX6_room_19 rfl rfl ?_
    refine gw_iload_n dX6_room_21 rfl rfl ?_
    refine gw_V2 okX6_entry dX6_room_22 kw_471 kw_472 kw_473 (hp_o (hT).1) rfl ⟨by decide, by decide⟩ ⟨by decide, by decide⟩ (Nat.le_of_ble_eq_true rfl) (k_entry hT (by omega) (by omega) ?_)
    refine gw_lmulZ dX6_room_25 rfl ?_
    refine gw_lstore dX6_room_26 rfl (by decide) ?_
    refine gw_lload dX6_room_28 rfl rfl ?_
    refine gw_lconst0Z dX6_room_30 rfl ?_
    refine gw_lc_leZ (tgt := 49) dX6_room_31 rfl dX6_room_32 rfl (by decide) (by omega) (by omega) (fun c_31 => ?_) (fun c_31 => ?_)
    · refine gw_iincZ dX6_room_49 rfl rfl (by decide) ?_
      refine gw_goto (tgt := 7) dX6_room_52 (by decide) ?_
      first
      | (rw [if_pos (show 0 < w * c a2 (j * 9 + z) by omega)] at h9
         have e9 : min R9 ((c a2 (j * 9 + c t 1)).tdiv (w * c a2 (j * 9 + z))) = if (c a2 (j * 9 + c t 1)).tdiv (w * c a2 (j * 9 + z)) < R9 then (c a2 (j * 9 + c t 1)).tdiv (w * c a2 (j * 9 + z)) else R9 := by split <;> omega
         simp only [e9] at h9
         exact gw_L h9 ((lvA_c rfl (lvA_c rfl (lvA_c rfl (lvA_c rfl (lvA_c rfl lvA_n)))))))
      | (rw [if_neg (show ¬ 0 < w * c a2 (j * 9 + z) by omega)] at h9
         exact gw_L h9 ((lvA_c rfl (lvA_c rfl (lvA_c rfl (lvA_c rfl (lvA_c rfl lvA_n)))))))
    · have h4 := tdivB h6 (show 0 < w * c a2 (j * 9 + z) by omega)
      refine gw_lload_n dX6_room_35 rfl rfl ?_
      refine gw_aload_n dX6_room_36 rfl rfl ?_
      refine gw_iload dX6_room_37 rfl rfl ?_
      refine gw_V1 okX6_side dX6_room_39 kw_467 kw_468 kw_469 (hp_o (hT).1) rfl ⟨by decide, by decide⟩ ⟨by decide, by decide⟩ (Nat.le_of_ble_eq_true rfl) (k_side hT (by omega) (by omega) ?_)
      refine gw_lload dX6_room_42 rfl rfl ?_
      refine gw_ldivZ dX6_room_44 rfl (by omega) (by omega) (by omega) ?_
      refine gw_mminlZ dX6_room_45 rfl kw_862 kw_863 kw_104 kw_864 (by decide) (Nat.le_of_ble_eq_true rfl) (by decide) (by decide) (by omega) (by omega) ?_
      refine gw_lstore_n dX6_room_48 rfl (by decide) ?_
      refine gw_iincZ dX6_room_49 rfl rfl (by decide) ?_
      refine gw_goto (tgt := 7) dX6_room_52 (by decide) ?_
      first
      | (rw [if_pos (show 0 < w * c a2 (j * 9 + z) by omega)] at h9
         have e9 : min R9 ((c a2 (j * 9 + c t 1)).tdiv (w * c a2 (j * 9 + z))) = if (c a2 (j * 9 + c t 1)).tdiv (w * c a2 (j * 9 + z)) < R9 then (c a2 (j * 9 + c t 1)).tdiv (w * c a2 (j * 9 + z)) else R9 := by split <;> omega
         simp only [e9] at h9
         exact gw_L h9 ((lvA_c rfl (lvA_c rfl (lvA_c rfl (lvA_c rfl (lvA_c rfl lvA_n)))))))
      | (rw [if_neg (show ¬ 0 < w * c a2 (j * 9 + z) by omega)] at h9
         exact gw_L h9 ((lvA_c rfl (lvA_c rfl (lvA_c rfl (lvA_c rfl (lvA_c rfl lvA_n)))))))
set_option maxRecDepth 100000 in
set_option maxHeartbeats 4000000 in
theorem k_room (hT : shT sh t g1 a1 g2 a2) (hG : tabG (c t 0) (c t 1) (c a1) (c a2)) (hz : 0 ≤ z ∧ z < c t 1) (hw : w = 1 ∨ w = -1) (hK : K (some (vI (rmF (fun r => w * c a2 (r * 9 + z)) (fun r => c a2 (r * 9 + c t 1)) (c t 0).toNat))) (hp Φ hb M sh c)) : gw_Con Φ mX6_room none [.ref (M + t), vI z, vI w] (hp Φ hb M sh c) K := by
  have hR := hG.1
  have hC := hG.2.1
  have hB := hG.2.2.1
  have hN := hG.2.2.2
  refine gw_start okX6_room (Nat.le_of_ble_eq_true rfl) ?_
  refine gw_ldc2Z (z := 99) dX6_room_0 rfl kw_861 (by decide) ?_
  refine gw_lstore_n dX6_room_3 rfl (by decide) ?_
  refine gw_iconstZ dX6_room_4 rfl ?_
  refine gw_istore dX6_room_5 rfl (by decide) ?_
  refine gw_L (l_room hT hG hz hw (fun hI => ?_) (c t 0).toNat 0 (by omega) (by omega) trivial) ((lvA_c rfl (lvA_c rfl (lvA_c rfl (lvA_c rfl (lvA_c rfl lvA_n))))))
  refine gw_lload_n dX6_room_55 rfl rfl ?_
  refine gw_l2iZ dX6_room_56 rfl ?_
  exact gw_iret dX6_room_57 rfl (by decide) (by decide) hK
end CT
