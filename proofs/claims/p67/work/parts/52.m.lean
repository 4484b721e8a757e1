section QM
/-! sums over columns -/
def sumN (f : Int → Int) : Nat → Int
  | 0 => 0
  | k + 1 => sumN f k + f k
theorem sumN_c {f g : Int → Int} : ∀ k : Nat, (∀ q : Int, 0 ≤ q → q < k → f q = g q) → sumN f k = sumN g k := by
  intro k
  induction k with
  | zero => intro _; rfl
  | succ k ih =>
    intro h
    show sumN f k + f k = sumN g k + g k
    rw [ih (fun q a b => h q a (by omega)), h k (by omega) (by omega)]
theorem sumN_1 {f : Int → Int} {p y : Int} {n : Nat} (hp : n ≤ p) : ∀ k : Nat, (∀ q : Int, n ≤ q → q < n + k → f q = if q = p then y else 0) → sumN f (n + k) = sumN f n + if p < n + k then y else 0 := by
  intro k
  induction k with
  | zero =>
    intro _
    rw [if_neg (by omega)]
    show sumN f n = _
    omega
  | succ k ih =>
    intro h
    have e := ih (fun q a b => h q a (by omega))
    have e2 := h ((n + k : Nat) : Int) (by omega) (by omega)
    show sumN f (n + k) + f ((n + k : Nat) : Int) = _
    rw [e, e2]
    by_cases h1 : ((n + k : Nat) : Int) = p
    · rw [if_neg (by omega), if_pos h1, if_pos (by omega)]
      omega
    · rw [if_neg h1]
      by_cases h2 : p < n + k
      · rw [if_pos h2, if_pos (by omega)]
        omega
      · rw [if_neg h2, if_neg (by omega)]
        omega
theorem sumN_z {f : Int → Int} {n : Nat} (k : Nat) (h : ∀ q : Int, n ≤ q → q < n + k → f q = 0) : sumN f (n + k) = sumN f n := by
  have e := sumN_1 (f := f) (p := n) (y := 0) (n := n) (by omega) k (fun q a b => by
    rw [h q a b]
    split <;> rfl)
  rw [e]
  split <;> omega
section
variable {F : Int → Int}
/-- what is given to a column -/
def gS (F : Int → Int) (q : Int) : Int := s4 (fun r => if r < F 1 ∧ F (27 + r) = q then tF F r (F 0 + F 1) else 0)
theorem gv_gS (g : GdP F) (hd : dF F ≠ 0) {q v : Int} (h : fstP (fun r => F (27 + r) = q) (F 1) v) : gvF F v = gS F q := by
  have g1 := g.2.1
  unfold gvF gS
  rcases h with ⟨rfl, h⟩ | ⟨h0, h1, h2, h3⟩
  · rw [if_pos (by decide), s4_c (g := fun _ => 0) (fun r hr => ?_), s4_z]
    rw [if_neg (fun z => h r hr.1 z.1 z.2)]
  · rw [if_neg (by omega), s4_c (g := fun r => if r = v then tF F r (F 0 + F 1) else 0) (fun r hr => ?_), s4_1' (f := fun r => tF F r (F 0 + F 1)) ⟨h0, by omega⟩]
    by_cases e : r = v
    · subst e
      rw [if_pos ⟨h1, h2⟩, if_pos rfl]
    · rw [if_neg e, if_neg (fun z => e (nm_u g hd ⟨hr.1, z.1⟩ ⟨h0, h1⟩ (z.2.trans h2.symm)))]
theorem gS_0 (hb : GdB F) (g : GdP F) (q : Int) : 0 ≤ gS F q ∧ gS F q ≤ 1732104 := by
  have g1 := g.2.1
  by_cases hq : ∃ v, (0 ≤ v ∧ v < F 1) ∧ F (27 + v) = q
  · obtain ⟨v, hv, e⟩ := hq
    have hf : ∃ w, fstP (fun r => F (27 + r) = q) (F 1) w := by
      by_cases h0 : F (27 + 0) = q
      · exact ⟨0, Or.inr ⟨by omega, by omega, h0, fun j a b => by omega⟩⟩
      · by_cases h1 : 1 < F 1 ∧ F (27 + 1) = q
        · exact ⟨1, Or.inr ⟨by omega, by omega, h1.2, fun j a b => by
            obtain rfl : j = 0 := by omega
            exact h0⟩⟩
        · by_cases h2 : 2 < F 1 ∧ F (27 + 2) = q
          · exact ⟨2, Or.inr ⟨by omega, by omega, h2.2, fun j a b => by
              by_cases hj : j = 0
              · subst hj; exact h0
              · obtain rfl : j = 1 := by omega
                exact fun z => h1 ⟨by omega, z⟩⟩⟩
          · refine ⟨v, Or.inr ⟨hv.1, hv.2, e, fun j a b => ?_⟩⟩
            by_cases hj : j = 0
            · subst hj; exact h0
            · by_cases hj1 : j = 1
              · subst hj1; exact fun z => h1 ⟨by omega, z⟩
              · obtain rfl : j = 2 := by omega
                exact fun z => h2 ⟨by omega, z⟩
    obtain ⟨w, hw⟩ := hf
    rw [← gv_gS g (by have := hb.2.1; omega) hw]
    have hb2 := gv_b g hb.1 (v := w) (by rcases hw with ⟨rfl, _⟩ | h <;> omega)
    refine ⟨?_, hb2.2⟩
    unfold gvF
    rcases hw with ⟨rfl, _⟩ | ⟨a, b, _⟩
    · rw [if_pos (by decide)]; omega
    · rw [if_neg (by omega)]; exact hb.2.2.1 w a b
  · have e : gS F q = 0 := by
      unfold gS
      rw [s4_c (g := fun _ => 0) (fun r hr => ?_), s4_z]
      rw [if_neg (fun z => hq ⟨r, ⟨hr.1, z.1⟩, z.2⟩)]
    omega
/-- from columns to rows -/
theorem reix (w : Int → Int) : ∀ k : Nat, sumN (fun q => w q * gS F q) k = s4 (fun r => if r < F 1 ∧ 0 ≤ F (27 + r) ∧ F (27 + r) < k then w (F (27 + r)) * tF F r (F 0 + F 1) else 0) := by
  intro k
  induction k with
  | zero =>
    show (0 : Int) = _
    rw [s4_c (g := fun _ => 0) (fun r hr => ?_), s4_z]
    rw [if_neg (by omega)]
  | succ k ih =>
    show sumN (fun q => w q * gS F q) k + w k * gS F k = _
    rw [ih]
    unfold gS
    rw [← s4_m, ← s4_a]
    refine s4_c fun r hr => ?_
    by_cases h1 : r < F 1
    · by_cases h2 : F (27 + r) = k
      · rw [if_neg (by omega), if_pos ⟨h1, h2⟩, if_pos (by omega), h2, Int.zero_add]
      · by_cases h3 : 0 ≤ F (27 + r) ∧ F (27 + r) < k
        · rw [if_pos ⟨h1, h3⟩, if_neg (by omega), if_pos (by omega), Int.mul_zero, Int.add_zero]
        · rw [if_neg (by omega), if_neg (by omega), if_neg (by omega), Int.mul_zero, Int.add_zero]
    · rw [if_neg (by omega), if_neg (by omega), if_neg (by omega), Int.mul_zero, Int.add_zero]
theorem reixN (g : GdP F) (hN : GdN F) (w : Int → Int) : sumN (fun q => w q * gS F q) (NF F) = s4 (fun r => if r < F 1 then w (F (27 + r)) * tF F r (F 0 + F 1) else 0) := by
  have hn := NF_e g
  rw [reix]
  refine s4_c fun r hr => ?_
  by_cases h1 : r < F 1
  · have := hN r hr.1 h1
    rw [if_pos (by omega), if_pos h1]
  · rw [if_neg (by omega), if_neg h1]
theorem cF_o (q : Int) (h : ¬ q < F 0) : cF F q = 0 := by unfold cF; rw [if_neg h]
theorem rF_rhs (g : GdP F) : rF F (F 0 + F 1) = -vF F (fun r => tF F r (F 0 + F 1)) := by
  have g1 := g.2.1
  unfold rF
  rw [cF_o _ (by omega), Int.mul_zero]
  omega
/-- the value, column by column -/
theorem val_e (g : GdP F) (hN : GdN F) : sumN (fun q => F (2 + q) * gS F q) (F 0).toNat = -rF F (F 0 + F 1) := by
  have g0 := g.1; have g1 := g.2.1
  have hn := NF_e g
  have e1 := reixN g hN (cF F)
  rw [show NF F = (F 0).toNat + (F 1).toNat by omega, sumN_z (f := fun q => cF F q * gS F q) (F 1).toNat (fun q a b => by
    rw [cF_o _ (by omega), Int.zero_mul])] at e1
  rw [rF_rhs g, Int.neg_neg, show vF F (fun r => tF F r (F 0 + F 1)) = s4 (fun r => if r < F 1 then cF F (F (27 + r)) * tF F r (F 0 + F 1) else 0) from rfl, ← e1]
  refine sumN_c _ fun q a b => ?_
  unfold cF
  rw [if_pos (show q < F 0 by omega)]
/-- a constraint, column by column -/
theorem con_e (g : GdP F) (hN : GdN F) {c : Int} (hc : 0 ≤ c ∧ c < F 1) : sumN (fun q => F (6 + 4 * c + q) * gS F q) (F 0).toNat + gS F (F 0 + c) = dF F * F (22 + c) := by
  have g0 := g.1; have g1 := g.2.1
  have hn := NF_e g
  have e1 := reixN g hN (fun q => aF F q c)
  have e2 := C_tt (C := bF F) (a := aF F (F 0 + F 1)) (i := c) (by omega)
  have e3 : aF F (F 0 + F 1) c = F (22 + c) := by
    unfold aF
    rw [if_pos hc, if_neg (by omega), if_pos rfl]
  rw [e3] at e2
  have e4 : s4 (fun r => if r < F 1 then aF F (F (27 + r)) c * tF F r (F 0 + F 1) else 0) = s4 (fun r => bF F c r * tt (bF F) (aF F (F 0 + F 1)) r) := s4_c fun r hr => by
    by_cases h1 : r < F 1
    · rw [if_pos h1]
      unfold bF
      rw [if_pos ⟨hr.1, h1⟩]
      rfl
    · rw [if_neg h1]
      have := tF_0 g (q := F 0 + F 1) (r := r) (by omega)
      unfold tF at this
      rw [this, Int.mul_zero]
  rw [e4, e2, show NF F = (F 0).toNat + (F 1).toNat by omega, sumN_1 (f := fun q => aF F q c * gS F q) (p := F 0 + c) (y := gS F (F 0 + c)) (n := (F 0).toNat) (by omega) (F 1).toNat (fun q a b => by
    show aF F q c * gS F q = _
    unfold aF
    rw [if_pos hc, if_neg (by omega), if_neg (by omega)]
    by_cases h : q = F 0 + c
    · rw [if_pos (by omega), if_pos h, Int.one_mul, h]
    · rw [if_neg (by omega), if_neg h, Int.zero_mul]), if_pos (by omega)] at e1
  have e5 : sumN (fun q => aF F q c * gS F q) (F 0).toNat = sumN (fun q => F (6 + 4 * c + q) * gS F q) (F 0).toNat := sumN_c _ fun q a b => by
    show aF F q c * gS F q = _
    unfold aF
    rw [if_pos hc, if_pos (by omega)]
  rw [← e5]
  exact e1
/-! the duals' worth -/
theorem tF_sl (g : GdP F) {j : Int} (hj : 0 ≤ j ∧ j < F 1) (r : Int) : tF F r (F 0 + j) = adj (bF F) r j := by
  have g1 := g.2.1
  unfold tF tt
  rw [s4_c (g := fun i => if i = j then adj (bF F) r i else 0) (fun i hi => ?_), s4_1' (f := fun i => adj (bF F) r i) (by omega)]
  show adj (bF F) r i * aF F (F 0 + j) i = _
  unfold aF
  by_cases h : i < F 1
  · rw [if_pos ⟨hi.1, h⟩, if_neg (by omega), if_neg (by omega)]
    by_cases e : i = j
    · rw [if_pos (by omega), if_pos e, Int.mul_one]
    · rw [if_neg (by omega), if_neg e, Int.mul_zero]
  · rw [if_neg (by omega), if_neg (by omega), Int.mul_zero]
theorem duS_s (g : GdP F) : ∀ k : Nat, (k : Int) ≤ F 1 → duS F k = s4 (fun j => if j < k then -rF F (F 0 + j) * F (22 + j) else 0) := by
  have g1 := g.2.1
  intro k
  induction k with
  | zero =>
    intro _
    show (0 : Int) = _
    rw [s4_c (g := fun _ => 0) (fun r hr => ?_), s4_z]
    rw [if_neg (by omega)]
  | succ k ih =>
    intro hk
    show duS F k + -rF F (F 0 + k) * F (22 + k) = _
    rw [ih (by omega), ← s4_1' (f := fun j => -rF F (F 0 + j) * F (22 + j)) (r := (k : Int)) (by omega), ← s4_a]
    refine s4_c fun j hj => ?_
    by_cases h : j = k
    · rw [if_neg (by omega), if_pos h, if_pos (by omega), Int.zero_add]
    · rw [if_neg h]
      by_cases h2 : j < k
      · rw [if_pos h2, if_pos (by omega), Int.add_zero]
      · rw [if_neg h2, if_neg (by omega)]
        rfl
theorem du_e (g : GdP F) : duS F (F 1).toNat = -rF F (F 0 + F 1) := by
  have g0 := g.1; have g1 := g.2.1
  rw [duS_s g _ (by omega), rF_rhs g, Int.neg_neg, show vF F (fun r => tF F r (F 0 + F 1)) = s4 (fun r => if r < F 1 then cF F (F (27 + r)) * tF F r (F 0 + F 1) else 0) from rfl]
  have e1 : ∀ r, (if r < F 1 then cF F (F (27 + r)) * tF F r (F 0 + F 1) else 0) = s4 (fun j => if j < F 1 then (if r < F 1 then cF F (F (27 + r)) * (adj (bF F) r j * F (22 + j)) else 0) else 0) := fun r => by
    by_cases h : r < F 1
    · rw [if_pos h]
      unfold tF tt
      rw [← s4_m]
      refine s4_c fun j hj => ?_
      by_cases h2 : j < F 1
      · rw [if_pos h2, if_pos h]
        unfold aF
        rw [if_pos ⟨hj.1, h2⟩, if_neg (by omega), if_pos rfl]
      · rw [if_neg h2]
        unfold aF
        rw [if_neg (by omega), Int.mul_zero, Int.mul_zero]
    · rw [if_neg h, s4_c (g := fun _ => 0) (fun j hj => ?_), s4_z]
      rw [if_neg h]
      split <;> rfl
  rw [s4_c (fun r _ => e1 r), s4_f]
  refine s4_c fun j hj => ?_
  by_cases h : j < F 1
  · rw [if_pos (by omega)]
    have e2 : -rF F (F 0 + j) = s4 (fun r => if r < F 1 then cF F (F (27 + r)) * adj (bF F) r j else 0) := by
      unfold rF vF
      rw [cF_o _ (by omega), Int.mul_zero, s4_c (g := fun r => if r < F 1 then cF F (F (27 + r)) * adj (bF F) r j else 0) (fun r hr => by
        show (if r < F 1 then cF F (F (27 + r)) * tF F r (F 0 + j) else 0) = _
        rw [tF_sl g ⟨hj.1, h⟩])]
      omega
    rw [e2, ← s4_m2]
    refine s4_c fun r hr => ?_
    rw [if_pos h]
    by_cases h2 : r < F 1
    · rw [if_pos h2, if_pos h2, Int.mul_assoc]
    · rw [if_neg h2, if_neg h2, Int.zero_mul]
  · rw [if_neg (by omega), s4_c (g := fun _ => 0) (fun r hr => by rw [if_neg h]), s4_z]
end
end QM
