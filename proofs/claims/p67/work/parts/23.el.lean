section EL
/-! elimination: columns cs 0 .. cs (m - 1) take places of the unit matrix; pi j is the place of column j -/
def Pm (m : Int) (s : Int → Int) : Prop := (∀ j, 0 ≤ j → j < 4 → 0 ≤ s j ∧ s j < 4) ∧ (∀ i j, 0 ≤ i → i < 4 → 0 ≤ j → j < 4 → s i = s j → i = j) ∧ (∀ j, m ≤ j → j < 4 → s j = j) ∧ ∀ j, 0 ≤ j → j < m → s j < m
def Elm (m k : Int) (cs : Int → Int → Int) (C : Mx) (s : Int → Int) : Prop := Pm m s ∧ det4 C ≠ 0 ∧ ∀ j i, 0 ≤ j → j < 4 → 0 ≤ i → i < 4 → C i (s j) = if j < k then cs j i else if i = s j then 1 else 0
def Dep (m : Int) (cs : Int → Int → Int) : Prop := ∃ v : Int → Int, (∃ k, 0 ≤ k ∧ k < m ∧ v k ≠ 0) ∧ ∀ i, 0 ≤ i ∧ i < 4 → s4 (fun j => (if j < m then cs j i else 0) * v j) = 0
theorem s4_z : s4 (fun _ => 0) = 0 := rfl
/-- a function told at the places -/
theorem at_pm {m : Int} {s : Int → Int} (h : Pm m s) (f : Int → Int) : ∃ y : Int → Int, ∀ j, 0 ≤ j → j < 4 → y (s j) = f j := by
  refine ⟨fun r => if r = s 0 then f 0 else if r = s 1 then f 1 else if r = s 2 then f 2 else f 3, fun j h0 h1 => ?_⟩
  have hi := h.2.1
  have e1 := hi 1 0 (by omega) (by omega) (by omega) (by omega)
  have e2 := hi 2 0 (by omega) (by omega) (by omega) (by omega)
  have e3 := hi 3 0 (by omega) (by omega) (by omega) (by omega)
  have e4 := hi 2 1 (by omega) (by omega) (by omega) (by omega)
  have e5 := hi 3 1 (by omega) (by omega) (by omega) (by omega)
  have e6 := hi 3 2 (by omega) (by omega) (by omega) (by omega)
  show (if s j = s 0 then f 0 else if s j = s 1 then f 1 else if s j = s 2 then f 2 else f 3) = f j
  rcases i4 ⟨h0, h1⟩ with rfl | rfl | rfl | rfl
  · rw [if_pos rfl]
  · rw [if_neg (fun z => by have := e1 z; omega), if_pos rfl]
  · rw [if_neg (fun z => by have := e2 z; omega), if_neg (fun z => by have := e4 z; omega), if_pos rfl]
  · rw [if_neg (fun z => by have := e3 z; omega), if_neg (fun z => by have := e5 z; omega), if_neg (fun z => by have := e6 z; omega)]
theorem pm_sum {m : Int} {s : Int → Int} (h : Pm m s) (f : Int → Int) : s4 (fun i => f (s i)) = s4 f := s4_p (fun i hi => h.1 i hi.1 hi.2) (fun i j hi hj => h.2.1 i j hi.1 hi.2 hj.1 hj.2)
/-- one answer, whichever way -/
theorem Elm_u {m : Int} {cs : Int → Int → Int} {C C' : Mx} {s s' : Int → Int} (h : Elm m m cs C s) (h' : Elm m m cs C' s') {a : Int → Int} {k : Int} (hk : 0 ≤ k ∧ k < 4) : det4 C' * tt C a (s k) = det4 C * tt C' a (s' k) := by
  obtain ⟨y, hy⟩ := at_pm h.1 (fun j => tt C' a (s' j))
  have hC : ∀ j i, 0 ≤ j → j < 4 → 0 ≤ i → i < 4 → C i (s j) = C' i (s' j) := fun j i h0 h1 h2 h3 => by
    rw [h.2.2 j i h0 h1 h2 h3, h'.2.2 j i h0 h1 h2 h3]
    by_cases e : j < m
    · rw [if_pos e, if_pos e]
    · rw [if_neg e, if_neg e, h.1.2.2.1 j (by omega) h1, h'.1.2.2.1 j (by omega) h1]
  have h1 : ∀ i, 0 ≤ i ∧ i < 4 → s4 (fun r => C i r * y r) = det4 C' * a i - (fun _ => 0) i * 0 := fun i hi => by
    rw [← pm_sum h.1 (fun r => C i r * y r), s4_c (g := fun j => C' i (s' j) * tt C' a (s' j)) (fun j hj => by
      show C i (s j) * y (s j) = _
      rw [hy j hj.1 hj.2, hC j i hj.1 hj.2 hi.1 hi.2]), pm_sum h'.1 (fun r => C' i r * tt C' a r), C_tt hi]
    omega
  have h2 := tt_C (C := C) (h.1.1 k hk.1 hk.2) h1
  rw [tt_lin, hy k hk.1 hk.2] at h2
  omega
theorem Elm_dep {m : Int} {cs : Int → Int → Int} {C : Mx} {s : Int → Int} (h : Elm m m cs C s) (hm : m ≤ 4) (hd : Dep m cs) : False := by
  obtain ⟨v, ⟨k, hk0, hk1, hk⟩, hv⟩ := hd
  obtain ⟨y, hy⟩ := at_pm h.1 (fun j => if j < m then v j else 0)
  refine h.2.1 (det_0 (r := s k) (x := y) (h.1.1 k hk0 (by omega)) (fun i hi => ?_) (by rw [hy k hk0 (by omega), if_pos hk1]; exact hk))
  rw [← pm_sum h.1 (fun r => C i r * y r), ← hv i hi]
  refine s4_c fun j hj => ?_
  show C i (s j) * y (s j) = _
  rw [hy j hj.1 hj.2, h.2.2 j i hj.1 hj.2 hi.1 hi.2]
  by_cases e : j < m
  · simp only [if_pos e]
  · simp only [if_neg e, Int.mul_zero, Int.zero_mul]
theorem Elm_0 {m : Int} {cs : Int → Int → Int} : Elm m 0 cs (fun i r => if i = r then 1 else 0) (fun j => j) := by
  refine ⟨⟨fun j h0 h1 => ⟨h0, h1⟩, fun i j _ _ _ _ h => h, fun _ _ _ => rfl, fun j _ h => h⟩, by decide, fun j i h0 h1 h2 h3 => ?_⟩
  rw [if_neg (by omega)]
def swp (s : Int → Int) (a b : Int) : Int → Int := fun j => if j = a then s b else if j = b then s a else s j
theorem swp_a {s : Int → Int} {a b : Int} : swp s a b a = s b := if_pos rfl
theorem swp_b {s : Int → Int} {a b : Int} : swp s a b b = s a := by
  unfold swp
  by_cases h : b = a
  · rw [if_pos h, h]
  · rw [if_neg h, if_pos rfl]
theorem swp_n {s : Int → Int} {a b j : Int} (h : j ≠ a) (h2 : j ≠ b) : swp s a b j = s j := by
  unfold swp
  rw [if_neg h, if_neg h2]
theorem Pm_swp {m : Int} {s : Int → Int} {a b : Int} (h : Pm m s) (ha : 0 ≤ a ∧ a < m) (hb : 0 ≤ b ∧ b < m) (hm : m ≤ 4) : Pm m (swp s a b) := by
  obtain ⟨h1, h2, h3, h4⟩ := h
  have hc : ∀ j, (j = a ∧ swp s a b j = s b) ∨ (j = b ∧ j ≠ a ∧ swp s a b j = s a) ∨ (j ≠ a ∧ j ≠ b ∧ swp s a b j = s j) := fun j => by
    by_cases e : j = a
    · exact Or.inl ⟨e, by rw [e, swp_a]⟩
    · by_cases e2 : j = b
      · exact Or.inr (Or.inl ⟨e2, e, by rw [e2, swp_b]⟩)
      · exact Or.inr (Or.inr ⟨e, e2, swp_n e e2⟩)
  refine ⟨fun j h0 h9 => ?_, fun i j i0 i9 j0 j9 e => ?_, fun j h0 h9 => ?_, fun j h0 h9 => ?_⟩
  · rcases hc j with ⟨-, e⟩ | ⟨-, -, e⟩ | ⟨-, -, e⟩ <;> rw [e]
    · exact h1 b (by omega) (by omega)
    · exact h1 a (by omega) (by omega)
    · exact h1 j h0 h9
  · rcases hc i with ⟨q1, e1⟩ | ⟨q1, q2, e1⟩ | ⟨q1, q2, e1⟩ <;> rcases hc j with ⟨q3, e3⟩ | ⟨q3, q4, e3⟩ | ⟨q3, q4, e3⟩ <;> rw [e1, e3] at e
    · omega
    · have := h2 b a (by omega) (by omega) (by omega) (by omega) e; omega
    · have := h2 b j (by omega) (by omega) (by omega) (by omega) e; omega
    · have := h2 a b (by omega) (by omega) (by omega) (by omega) e; omega
    · omega
    · have := h2 a j (by omega) (by omega) (by omega) (by omega) e; omega
    · have := h2 i b (by omega) (by omega) (by omega) (by omega) e; omega
    · have := h2 i a (by omega) (by omega) (by omega) (by omega) e; omega
    · exact h2 i j i0 i9 j0 j9 e
  · rw [swp_n (by omega) (by omega)]; exact h3 j h0 h9
  · rcases hc j with ⟨-, e⟩ | ⟨-, -, e⟩ | ⟨-, -, e⟩ <;> rw [e]
    · exact h4 b hb.1 hb.2
    · exact h4 a ha.1 ha.2
    · exact h4 j h0 h9
theorem Elm_swp {m k : Int} {cs : Int → Int → Int} {C : Mx} {s : Int → Int} (h : Elm m k cs C s) {j0 : Int} (hk : 0 ≤ k) (hj : k ≤ j0 ∧ j0 < m) (hm : m ≤ 4) : Elm m k cs C (swp s k j0) := by
  refine ⟨Pm_swp h.1 (by omega) (by omega) hm, h.2.1, fun j i h0 h1 h2 h3 => ?_⟩
  by_cases e : j = k
  · subst e
    rw [swp_a, h.2.2 j0 i (by omega) (by omega) h2 h3]
    simp only [if_neg (show ¬ j0 < j by omega), if_neg (show ¬ j < j by omega)]
  · by_cases e2 : j = j0
    · subst e2
      rw [swp_b, h.2.2 k i hk (by omega) h2 h3]
      simp only [if_neg (show ¬ k < k by omega), if_neg (show ¬ j < k by omega)]
    · rw [swp_n e e2]
      exact h.2.2 j i h0 h1 h2 h3
theorem Elm_piv {m k : Int} {cs : Int → Int → Int} {C : Mx} {s : Int → Int} (h : Elm m k cs C s) (hk : 0 ≤ k ∧ k < m) (hm : m ≤ 4) (ht : tt C (cs k) (s k) ≠ 0) : Elm m (k + 1) cs (col C (s k) (cs k)) s := by
  have hs := h.1.1 k hk.1 (by omega)
  refine ⟨h.1, by rw [det_col hs]; exact ht, fun j i h0 h1 h2 h3 => ?_⟩
  unfold col
  by_cases e : j = k
  · subst e
    rw [if_pos rfl, if_pos (by omega)]
  · rw [if_neg (fun z => e (h.1.2.1 j k h0 h1 hk.1 (by omega) z)), h.2.2 j i h0 h1 h2 h3]
    by_cases e2 : j < k
    · simp only [if_pos e2, if_pos (show j < k + 1 by omega)]
    · simp only [if_neg e2, if_neg (show ¬ j < k + 1 by omega)]
/-- rows behind the m first -/
theorem Elm_z {m k : Int} {cs : Int → Int → Int} {C : Mx} {s : Int → Int} (h : Elm m k cs C s) (hk : k ≤ m) (hcs : ∀ j i, 0 ≤ j → j < m → m ≤ i → cs j i = 0) {a : Int → Int} {r : Int} (hr : m ≤ r ∧ r < 4) (h0 : 0 ≤ r) (ha : a r = 0) : tt C a r = 0 := by
  have e := C_tt (C := C) (a := a) (i := r) (by omega)
  rw [← pm_sum h.1 (fun k => C r k * tt C a k), s4_c (g := fun j => if r = j then tt C a (s j) else 0) (fun j hj => by
    show C r (s j) * tt C a (s j) = _
    rw [h.2.2 j r hj.1 hj.2 h0 hr.2]
    by_cases e : j < k
    · rw [if_pos e, hcs j r hj.1 (by omega) hr.1, if_neg (by omega), Int.zero_mul]
    · rw [if_neg e]
      by_cases e2 : j < m
      · have := h.1.2.2.2 j hj.1 e2
        rw [if_neg (by omega), if_neg (by omega), Int.zero_mul]
      · rw [h.1.2.2.1 j (by omega) hj.2]
        by_cases e3 : r = j
        · rw [if_pos e3, if_pos e3, Int.one_mul]
        · rw [if_neg e3, if_neg e3, Int.zero_mul]), s4_1 (f := fun j => tt C a (s j)) ⟨h0, hr.2⟩, h.1.2.2.1 r hr.1 hr.2, ha, Int.mul_zero] at e
  exact e
theorem Elm_fail {m k : Int} {cs : Int → Int → Int} {C : Mx} {s : Int → Int} (h : Elm m k cs C s) (hk : 0 ≤ k ∧ k < m) (hm : m ≤ 4) (hcs : ∀ j i, 0 ≤ j → j < m → m ≤ i → cs j i = 0) (ht : ∀ j, k ≤ j → j < m → tt C (cs k) (s j) = 0) : Dep m cs := by
  refine ⟨fun j => if j < k then -tt C (cs k) (s j) else if j = k then det4 C else 0, ⟨k, hk.1, hk.2, by simp only [if_neg (show ¬ k < k by omega), if_pos (show k = k from rfl)]; exact h.2.1⟩, fun i hi => ?_⟩
  have e := C_tt (C := C) (a := cs k) hi
  rw [← pm_sum h.1 (fun r => C i r * tt C (cs k) r)] at e
  have e2 : s4 (fun j => (if j < m then cs j i else 0) * (if j < k then -tt C (cs k) (s j) else if j = k then det4 C else 0)) = s4 (fun j => (if k = j then det4 C * cs k i else 0) - C i (s j) * tt C (cs k) (s j)) := s4_c fun j hj => by
    by_cases e3 : j < k
    · rw [h.2.2 j i hj.1 hj.2 hi.1 hi.2]
      simp only [if_pos (show j < m by omega), if_pos e3, if_neg (show ¬ k = j by omega), Int.mul_neg]
      omega
    · have hz : tt C (cs k) (s j) = 0 := by
        by_cases e4 : j < m
        · exact ht j (by omega) e4
        · rw [h.1.2.2.1 j (by omega) hj.2]
          exact Elm_z h (by omega) hcs (by omega) hj.1 (hcs k j hk.1 hk.2 (by omega))
      rw [if_neg e3, hz, Int.mul_zero]
      by_cases e5 : j = k
      · subst e5
        simp only [if_pos (show j < m by omega), if_true]
        rw [Int.mul_comm]
        omega
      · simp only [if_neg e5, if_neg (show ¬ k = j by omega), Int.mul_zero]
        omega
  rw [e2, s4_s, e, s4_1 (f := fun _ => det4 C * cs k i) (by omega)]
  omega
theorem Elm_9 {m k : Int} {cs : Int → Int → Int} {C : Mx} {s : Int → Int} (h : Elm m k cs C s) (h9 : ∀ j i, 0 ≤ j → j < m → 0 ≤ i → i < 4 → B9 (cs j i)) (hk : k ≤ m) : ∀ x y, 0 ≤ x ∧ x < 4 → 0 ≤ y ∧ y < 4 → B9 (C x y) := by
  intro x y hx hy
  have hs : ∃ j, (0 ≤ j ∧ j < 4) ∧ s j = y := by
    have a0 := h.1.1 0 (by omega) (by omega); have a1 := h.1.1 1 (by omega) (by omega); have a2 := h.1.1 2 (by omega) (by omega); have a3 := h.1.1 3 (by omega) (by omega)
    have hi := h.1.2.1
    have e1 := hi 1 0 (by omega) (by omega) (by omega) (by omega)
    have e2 := hi 2 0 (by omega) (by omega) (by omega) (by omega)
    have e3 := hi 3 0 (by omega) (by omega) (by omega) (by omega)
    have e4 := hi 2 1 (by omega) (by omega) (by omega) (by omega)
    have e5 := hi 3 1 (by omega) (by omega) (by omega) (by omega)
    have e6 := hi 3 2 (by omega) (by omega) (by omega) (by omega)
    have hq : s 0 = y ∨ s 1 = y ∨ s 2 = y ∨ s 3 = y := by omega
    rcases hq with q | q | q | q
    · exact ⟨0, by omega, q⟩
    · exact ⟨1, by omega, q⟩
    · exact ⟨2, by omega, q⟩
    · exact ⟨3, by omega, q⟩
  obtain ⟨j, hj, rfl⟩ := hs
  rw [h.2.2 j x hj.1 hj.2 hx.1 hx.2]
  split
  · exact h9 j x hj.1 (by omega) hx.1 hx.2
  · split <;> omega
end EL
