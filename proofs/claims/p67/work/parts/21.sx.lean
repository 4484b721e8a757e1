section SX
/-! a problem with its basis, as the 34 numbers of the reference's row -/
def aF (F : Int → Int) (q i : Int) : Int := if 0 ≤ i ∧ i < F 1 then (if q < F 0 then F (6 + 4 * i + q) else if q = F 0 + F 1 then F (22 + i) else if q - F 0 = i then 1 else 0) else 0
def cF (F : Int → Int) (q : Int) : Int := if q < F 0 then F (2 + q) else 0
def bF (F : Int → Int) : Mx := fun i r => if 0 ≤ r ∧ r < F 1 then aF F (F (27 + r)) i else if i = r then 1 else 0
def dF (F : Int → Int) : Int := det4 (bF F)
def tF (F : Int → Int) (r q : Int) : Int := tt (bF F) (aF F q) r
def vF (F : Int → Int) (f : Int → Int) : Int := s4 (fun r => if r < F 1 then cF F (F (27 + r)) * f r else 0)
def rF (F : Int → Int) (q : Int) : Int := dF F * cF F q - vF F (fun r => tF F r q)
def GdP (F : Int → Int) : Prop := (1 ≤ F 0 ∧ F 0 ≤ 4) ∧ (0 ≤ F 1 ∧ F 1 ≤ 4) ∧ (∀ v, 0 ≤ v → v < 4 → B9 (F (2 + v))) ∧ (∀ c v, 0 ≤ c → c < 4 → 0 ≤ v → v < 4 → B9 (F (6 + 4 * c + v))) ∧ (∀ c, 0 ≤ c → c < 4 → 0 ≤ F (22 + c) ∧ F (22 + c) ≤ 99)
def GdN (F : Int → Int) : Prop := ∀ r, 0 ≤ r → r < F 1 → 0 ≤ F (27 + r) ∧ F (27 + r) < F 0 + F 1
def GdB (F : Int → Int) : Prop := GdN F ∧ 0 < dF F ∧ (∀ r, 0 ≤ r → r < F 1 → 0 ≤ tF F r (F 0 + F 1)) ∧ rF F (F 0 + F 1) ≤ 0
theorem aF_9 {F : Int → Int} (h : GdP F) {q i : Int} (hq : 0 ≤ q ∧ q < F 0 + F 1) : B9 (aF F q i) := by
  obtain ⟨h0, h1, h2, h3, h4⟩ := h
  unfold aF
  split
  · split
    · exact h3 i q (by omega) (by omega) (by omega) (by omega)
    · rw [if_neg (by omega)]
      split <;> omega
  · omega
theorem aF_99 {F : Int → Int} (h : GdP F) {q i : Int} (hq : 0 ≤ q ∧ q ≤ F 0 + F 1) : -99 ≤ aF F q i ∧ aF F q i ≤ 99 := by
  by_cases e : q = F 0 + F 1
  · have := h.2.1
    unfold aF
    by_cases h1 : 0 ≤ i ∧ i < F 1
    · rw [if_pos h1, if_neg (show ¬ q < F 0 by omega), if_pos e]
      have := h.2.2.2.2 i (by omega) (by omega)
      omega
    · rw [if_neg h1]
      omega
  · have := aF_9 h (q := q) (i := i) (by omega)
    omega
theorem cF_9 {F : Int → Int} (h : GdP F) {q : Int} (hq : 0 ≤ q) : B9 (cF F q) := by
  unfold cF
  split
  · exact h.2.2.1 q hq (by have := h.1; omega)
  · omega
theorem bF_9 {F : Int → Int} (h : GdP F) (hN : GdN F) : ∀ x y, 0 ≤ x ∧ x < 4 → 0 ≤ y ∧ y < 4 → B9 (bF F x y) := by
  intro x y hx hy
  unfold bF
  split
  · rename_i h9
    exact aF_9 h (hN y h9.1 h9.2)
  · split <;> omega
theorem dF_b {F : Int → Int} (h : GdP F) (hN : GdN F) : -157464 ≤ dF F ∧ dF F ≤ 157464 := det_b (bF_9 h hN)
theorem tF_b {F : Int → Int} (h : GdP F) (hN : GdN F) {r q : Int} (hr : 0 ≤ r ∧ r < 4) (hq : 0 ≤ q ∧ q < F 0 + F 1) : -157464 ≤ tF F r q ∧ tF F r q ≤ 157464 := by
  have := tt_b (A := 9) hr (bF_9 h hN) (a := aF F q) (fun i _ => aF_9 h hq)
  unfold tF
  omega
theorem tF_b9 {F : Int → Int} (h : GdP F) (hN : GdN F) {r q : Int} (hr : 0 ≤ r ∧ r < 4) (hq : 0 ≤ q ∧ q ≤ F 0 + F 1) : -1732104 ≤ tF F r q ∧ tF F r q ≤ 1732104 := by
  have := tt_b (A := 99) hr (bF_9 h hN) (a := aF F q) (fun i _ => aF_99 h hq)
  unfold tF
  omega
theorem vF_b {F : Int → Int} (h : GdP F) (hN : GdN F) {f : Int → Int} {A : Int} (hA : 0 ≤ A) (hf : ∀ r, 0 ≤ r ∧ r < 4 → -A ≤ f r ∧ f r ≤ A) : -(36 * A) ≤ vF F f ∧ vF F f ≤ 36 * A := by
  have h9 : ∀ r, 0 ≤ r ∧ r < 4 → -(9 * A) ≤ (if r < F 1 then cF F (F (27 + r)) * f r else 0) ∧ (if r < F 1 then cF F (F (27 + r)) * f r else 0) ≤ 9 * A := by
    intro r hr
    split
    · rename_i hm
      exact mbd (cF_9 h (hN r hr.1 hm).1) (hf r hr)
    · omega
  have h0 := h9 0 (by omega); have h1 := h9 1 (by omega); have h2 := h9 2 (by omega); have h3 := h9 3 (by omega)
  simp only [vF, s4]
  omega
theorem rF_b {F : Int → Int} (h : GdP F) (hN : GdN F) {q : Int} (hq : 0 ≤ q ∧ q < F 0 + F 1) : -7085880 ≤ rF F q ∧ rF F q ≤ 7085880 := by
  have h1 := mbd (dF_b h hN) (cF_9 h hq.1)
  have h2 := vF_b h hN (f := fun r => tF F r q) (A := 157464) (by omega) (fun r hr => tF_b h hN hr hq)
  unfold rF
  omega
theorem rF_b9 {F : Int → Int} (h : GdP F) (hN : GdN F) {q : Int} (hq : 0 ≤ q ∧ q ≤ F 0 + F 1) : -63772920 ≤ rF F q ∧ rF F q ≤ 63772920 := by
  have h1 := mbd (dF_b h hN) (cF_9 h hq.1)
  have h2 := vF_b h hN (f := fun r => tF F r q) (A := 1732104) (by omega) (fun r hr => tF_b9 h hN hr hq)
  unfold rF
  omega
theorem aF_col {F : Int → Int} {k : Int} (hk : 0 ≤ k ∧ k < F 1) : aF F (F (27 + k)) = fun i => bF F i k := by
  funext i
  unfold bF
  rw [if_pos hk]
theorem tF_named {F : Int → Int} (h : GdP F) {r k : Int} (hr : 0 ≤ r ∧ r < 4) (hk : 0 ≤ k ∧ k < F 1) : tF F r (F (27 + k)) = if r = k then dF F else 0 := by
  unfold tF
  rw [aF_col hk]
  exact tt_self hr (by have := h.2.1; omega)
theorem rF_named {F : Int → Int} (h : GdP F) {k : Int} (hk : 0 ≤ k ∧ k < F 1) : rF F (F (27 + k)) = 0 := by
  unfold rF vF
  rw [s4_c (g := fun r => if r = k then cF F (F (27 + r)) * dF F else 0) (fun r hr => by
    show (if r < F 1 then cF F (F (27 + r)) * tF F r (F (27 + k)) else 0) = _
    rw [tF_named h hr hk]
    by_cases e : r = k
    · rw [if_pos e, if_pos e, if_pos (by omega)]
    · rw [if_neg e, if_neg e, Int.mul_zero]; split <;> rfl), s4_1' (f := fun r => cF F (F (27 + r)) * dF F) (by have := h.2.1; omega), Int.mul_comm]
  omega
/-- rows behind the constraints -/
theorem tF_0 {F : Int → Int} (h : GdP F) {r q : Int} (hr : F 1 ≤ r ∧ r < 4) : tF F r q = 0 := by
  have h1 := h.2.1
  have e := C_tt (C := bF F) (a := aF F q) (i := r) (by omega)
  rw [s4_c (g := fun k => if r = k then tF F k q else 0) (fun k hk => by
    show bF F r k * tF F k q = _
    unfold bF
    by_cases h2 : 0 ≤ k ∧ k < F 1
    · rw [if_pos h2, if_neg (show ¬ r = k by omega)]
      unfold aF
      rw [if_neg (by omega), Int.zero_mul]
    · rw [if_neg h2]
      by_cases h3 : r = k
      · rw [if_pos h3, if_pos h3, Int.one_mul]
      · rw [if_neg h3, if_neg h3, Int.zero_mul]), s4_1 (f := fun k => tF F k q) (by omega)] at e
  rw [e]
  unfold aF
  rw [if_neg (by omega), Int.mul_zero]
/-! a pivot -/
section
variable {F F' : Int → Int} {p q : Int}
theorem aF_e (hm : F 1 ≤ 4) (hn : F 0 ≤ 4) (h : ∀ i, i < 26 → F' i = F i) (q : Int) : aF F' q = aF F q := by
  funext i
  unfold aF
  rw [h 0 (by omega), h 1 (by omega)]
  by_cases h1 : 0 ≤ i ∧ i < F 1
  · rw [if_pos h1, if_pos h1]
    by_cases h2 : q < F 0
    · rw [if_pos h2, if_pos h2, h _ (by omega)]
    · rw [if_neg h2, if_neg h2, h _ (by omega)]
  · rw [if_neg h1, if_neg h1]
theorem cF_e (hn : F 0 ≤ 4) (h : ∀ i, i < 26 → F' i = F i) (q : Int) : cF F' q = cF F q := by
  unfold cF
  rw [h 0 (by omega)]
  by_cases h2 : q < F 0
  · rw [if_pos h2, if_pos h2, h _ (by omega)]
  · rw [if_neg h2, if_neg h2]
theorem GdP_e (h : ∀ i, i < 26 → F' i = F i) (g : GdP F) : GdP F' := by
  obtain ⟨h0, h1, h2, h3, h4⟩ := g
  refine ⟨by rw [h 0 (by omega)]; exact h0, by rw [h 1 (by omega)]; exact h1, fun v a b => by rw [h _ (by omega)]; exact h2 v a b, fun c v a b a2 b2 => by rw [h _ (by omega)]; exact h3 c v a b a2 b2, fun c a b => by rw [h _ (by omega)]; exact h4 c a b⟩
/-- what a pivot makes of the numbers -/
def PvF (F F' : Int → Int) (p q : Int) : Prop := (∀ i, i < 26 → F' i = F i) ∧ F' (27 + p) = q ∧ ∀ r, 0 ≤ r → r < F 1 → r ≠ p → F' (27 + r) = F (27 + r)
theorem bF_col (g : GdP F) (hv : PvF F F' p q) (hp : 0 ≤ p ∧ p < F 1) : bF F' = col (bF F) p (aF F q) := by
  funext i r
  have ea := fun q => aF_e g.2.1.2 g.1.2 hv.1 q
  simp only [bF, col]
  rw [hv.1 1 (by omega)]
  by_cases h1 : 0 ≤ r ∧ r < F 1
  · rw [if_pos h1, if_pos h1]
    by_cases h2 : r = p
    · rw [if_pos h2, h2, hv.2.1, ea]
    · rw [if_neg h2, hv.2.2 r h1.1 h1.2 h2, ea]
  · rw [if_neg h1, if_neg h1, if_neg (show ¬ r = p by omega)]
theorem dF_p (g : GdP F) (hv : PvF F F' p q) (hp : 0 ≤ p ∧ p < F 1) : dF F' = tF F p q := by
  unfold dF tF
  rw [bF_col g hv hp, det_col (by have := g.2.1; omega)]
theorem tF_pp (g : GdP F) (hv : PvF F F' p q) (hp : 0 ≤ p ∧ p < F 1) (c : Int) : tF F' p c = tF F p c := by
  unfold tF
  rw [bF_col g hv hp, aF_e g.2.1.2 g.1.2 hv.1, tt_col (by have := g.2.1; omega)]
theorem tF_pr (g : GdP F) (hv : PvF F F' p q) (hp : 0 ≤ p ∧ p < F 1) {r : Int} (hr : 0 ≤ r ∧ r < 4) (hrp : r ≠ p) (c : Int) : dF F * tF F' r c = tF F p q * tF F r c - tF F r q * tF F p c := by
  have h := tt_piv (C := bF F) (v := aF F q) (a := aF F c) (show 0 ≤ p ∧ p < 4 by have := g.2.1; omega) hr hrp
  rw [← bF_col g hv hp] at h
  have h2 := dF_p g hv hp
  unfold dF at h2
  rw [h2] at h
  unfold tF dF
  rw [aF_e g.2.1.2 g.1.2 hv.1]
  exact h
theorem rF_p (g : GdP F) (hv : PvF F F' p q) (hp : 0 ≤ p ∧ p < F 1) (c : Int) : dF F * rF F' c = tF F p q * rF F c - rF F q * tF F p c := by
  have hp4 : 0 ≤ p ∧ p < 4 := by have := g.2.1; omega
  have e1 : dF F * vF F' (fun r => tF F' r c) = s4 (fun r => (if r < F 1 then cF F (F (27 + r)) * (tF F p q * tF F r c) else 0) - (if r < F 1 then cF F (F (27 + r)) * tF F r q else 0) * tF F p c + if r = p then cF F q * (dF F * tF F p c) else 0) := by
    unfold vF
    rw [← s4_m]
    refine s4_c fun r hr => ?_
    show dF F * (if r < F' 1 then cF F' (F' (27 + r)) * tF F' r c else 0) = _
    rw [hv.1 1 (by omega), cF_e g.1.2 hv.1]
    by_cases h1 : r < F 1
    · rw [if_pos h1, if_pos h1, if_pos h1]
      by_cases h2 : r = p
      · subst h2
        rw [if_pos rfl, hv.2.1, tF_pp g hv hp]
        have e9 : cF F (F (27 + r)) * (tF F r q * tF F r c) = cF F (F (27 + r)) * tF F r q * tF F r c := (Int.mul_assoc ..).symm
        have e8 : dF F * (cF F q * tF F r c) = cF F q * (dF F * tF F r c) := Int.mul_left_comm ..
        omega
      · rw [if_neg h2, hv.2.2 r hr.1 h1 h2]
        have e9 : dF F * (cF F (F (27 + r)) * tF F' r c) = cF F (F (27 + r)) * (dF F * tF F' r c) := Int.mul_left_comm ..
        rw [e9, tF_pr g hv hp hr h2, Int.mul_sub, Int.mul_assoc]
        omega
    · rw [if_neg h1, if_neg h1, if_neg h1, if_neg (by omega)]
      omega
  rw [s4_a, s4_s, s4_1' (f := fun _ => cF F q * (dF F * tF F p c)) hp4, s4_m2 (f := fun r => if r < F 1 then cF F (F (27 + r)) * tF F r q else 0)] at e1
  have e2 : s4 (fun r => if r < F 1 then cF F (F (27 + r)) * (tF F p q * tF F r c) else 0) = tF F p q * vF F (fun r => tF F r c) := by
    unfold vF
    rw [← s4_m]
    refine s4_c fun r hr => ?_
    show _ = tF F p q * (if r < F 1 then cF F (F (27 + r)) * tF F r c else 0)
    split
    · exact Int.mul_left_comm ..
    · rw [Int.mul_zero]
  rw [e2] at e1
  have e3 : s4 (fun r => if r < F 1 then cF F (F (27 + r)) * tF F r q else 0) = vF F (fun r => tF F r q) := rfl
  rw [e3] at e1
  unfold rF
  rw [dF_p g hv hp, cF_e g.1.2 hv.1, Int.mul_sub, e1, Int.mul_sub, Int.sub_mul]
  have e4 : dF F * (tF F p q * cF F c) = tF F p q * (dF F * cF F c) := Int.mul_left_comm ..
  have e5 : dF F * cF F q * tF F p c = cF F q * (dF F * tF F p c) := by rw [Int.mul_comm (dF F), Int.mul_assoc]
  omega
theorem pos_of {a x : Int} (ha : 0 < a) (h : 0 ≤ a * x) : 0 ≤ x := by
  by_cases hx : 0 ≤ x
  · exact hx
  · have := Int.mul_neg_of_pos_of_neg ha (show x < 0 by omega)
    omega
theorem GdB_p (g : GdP F) (hb : GdB F) (hv : PvF F F' p q) (hp : 0 ≤ p ∧ p < F 1) (hq : 0 ≤ q ∧ q < F 0 + F 1) (ht : 0 < tF F p q) (hr : 0 ≤ rF F q) (hl : ∀ r, 0 ≤ r → r < F 1 → 0 < tF F r q → tF F p (F 0 + F 1) * tF F r q ≤ tF F r (F 0 + F 1) * tF F p q) : GdB F' := by
  obtain ⟨hN, hd, hs, hw⟩ := hb
  have e0 := hv.1 0 (by omega); have e1 := hv.1 1 (by omega)
  refine ⟨fun r h0 h1 => ?_, by rw [dF_p g hv hp]; exact ht, fun r h0 h1 => ?_, ?_⟩
  · rw [e1] at h1
    rw [e0, e1]
    by_cases e : r = p
    · rw [e, hv.2.1]; exact hq
    · rw [hv.2.2 r h0 h1 e]; exact hN r h0 h1
  · rw [e1] at h1
    rw [e0, e1]
    by_cases e : r = p
    · rw [e, tF_pp g hv hp]; exact hs p hp.1 hp.2
    · refine pos_of hd ?_
      rw [tF_pr g hv hp (by have := g.2.1; omega) e, Int.mul_comm (tF F p q), Int.mul_comm (tF F r q)]
      by_cases h2 : 0 < tF F r q
      · have := hl r h0 h1 h2
        omega
      · have h3 := Int.mul_nonneg (hs r h0 h1) (show 0 ≤ tF F p q by omega)
        have h4 := Int.mul_nonneg (hs p hp.1 hp.2) (show 0 ≤ -tF F r q by omega)
        rw [Int.mul_neg] at h4
        omega
  · rw [e0, e1]
    have h5 := rF_p g hv hp (F 0 + F 1)
    have h6 := Int.mul_nonneg (show 0 ≤ tF F p q by omega) (show 0 ≤ -rF F (F 0 + F 1) by omega)
    have h7 := Int.mul_nonneg hr (hs p hp.1 hp.2)
    rw [Int.mul_neg] at h6
    have h8 : 0 ≤ dF F * (-rF F' (F 0 + F 1)) := by rw [Int.mul_neg]; omega
    have := pos_of hd h8
    omega
/-! the basis of slacks -/
theorem I_tt {C : Mx} (h : ∀ i r, 0 ≤ i ∧ i < 4 → 0 ≤ r ∧ r < 4 → C i r = if i = r then 1 else 0) : det4 C = 1 ∧ ∀ a r, 0 ≤ r ∧ r < 4 → tt C a r = a r := by
  have hd : det4 C = 1 := by
    rw [det_c (C' := fun i r => if i = r then 1 else 0) (fun x y hx hy => h x y hx hy)]
    decide
  refine ⟨hd, fun a r hr => ?_⟩
  have := tt_C (C := C) (x := a) (b := a) hr (fun i hi => by
    rw [s4_c (g := fun k => if i = k then a k else 0) (fun k hk => by
      rw [h i k hi hk]
      split
      · rw [Int.one_mul]
      · rw [Int.zero_mul]), s4_1 hi])
  rw [this, hd, Int.one_mul]
theorem bF_I (hs : ∀ r, 0 ≤ r → r < F 1 → F (27 + r) = F 0 + r) : ∀ i r, 0 ≤ i ∧ i < 4 → 0 ≤ r ∧ r < 4 → bF F i r = if i = r then 1 else 0 := by
  intro i r hi hr
  unfold bF
  by_cases h1 : 0 ≤ r ∧ r < F 1
  · rw [if_pos h1, hs r h1.1 h1.2]
    unfold aF
    by_cases h2 : 0 ≤ i ∧ i < F 1
    · rw [if_pos h2, if_neg (by omega), if_neg (by omega)]
      by_cases h3 : i = r
      · rw [if_pos (by omega), if_pos h3]
      · rw [if_neg (by omega), if_neg h3]
    · rw [if_neg h2, if_neg (by omega)]
  · rw [if_neg h1]
theorem dF_I (hs : ∀ r, 0 ≤ r → r < F 1 → F (27 + r) = F 0 + r) : dF F = 1 := (I_tt (bF_I hs)).1
theorem tF_I (hs : ∀ r, 0 ≤ r → r < F 1 → F (27 + r) = F 0 + r) {r : Int} (hr : 0 ≤ r ∧ r < 4) (q : Int) : tF F r q = aF F q r := (I_tt (bF_I hs)).2 _ r hr
theorem rF_I (hs : ∀ r, 0 ≤ r → r < F 1 → F (27 + r) = F 0 + r) (q : Int) : rF F q = cF F q := by
  unfold rF vF
  rw [dF_I hs, s4_c (g := fun _ => 0) (fun r hr => by
    show (if r < F 1 then cF F (F (27 + r)) * tF F r q else 0) = 0
    split
    · rename_i h1
      rw [hs r hr.1 h1]
      unfold cF
      rw [if_neg (by omega), Int.zero_mul]
    · rfl)]
  simp only [s4]
  omega
theorem GdB_I (g : GdP F) (hs : ∀ r, 0 ≤ r → r < F 1 → F (27 + r) = F 0 + r) : GdB F := by
  have g0 := g.1; have g1 := g.2.1
  refine ⟨fun r h0 h1 => by rw [hs r h0 h1]; omega, by rw [dF_I hs]; omega, fun r h0 h1 => ?_, ?_⟩
  · rw [tF_I hs (by omega)]
    unfold aF
    rw [if_pos ⟨h0, h1⟩, if_neg (by omega), if_pos rfl]
    exact (g.2.2.2.2 r h0 (by omega)).1
  · rw [rF_I hs]
    unfold cF
    rw [if_neg (by omega)]
    omega
end
end SX
