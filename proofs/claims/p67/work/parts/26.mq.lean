section MQ
noncomputable def pick (P : Prop) (a b : Int) : Int := @ite Int P (Classical.propDecidable P) a b
theorem pick_t {P : Prop} {a b : Int} (h : P) : pick P a b = a := by unfold pick; rw [if_pos h]
theorem pick_f {P : Prop} {a b : Int} (h : ¬ P) : pick P a b = b := by unfold pick; rw [if_neg h]
/-- a scan from below that keeps the best -/
noncomputable def lrF (pos : Int → Prop) (bt : Int → Int → Prop) : Nat → Int
  | 0 => -1
  | k + 1 => pick (pos k ∧ (lrF pos bt k < 0 ∨ bt k (lrF pos bt k))) k (lrF pos bt k)
theorem lrF_r {pos : Int → Prop} {bt : Int → Int → Prop} : ∀ n : Nat, lrF pos bt n = -1 ∨ (0 ≤ lrF pos bt n ∧ lrF pos bt n < n ∧ pos (lrF pos bt n))
  | 0 => Or.inl rfl
  | n + 1 => by
    by_cases h : pos n ∧ (lrF pos bt n < 0 ∨ bt n (lrF pos bt n))
    · have e : lrF pos bt (n + 1) = n := pick_t h
      rw [e]
      exact Or.inr ⟨by omega, by omega, h.1⟩
    · have e : lrF pos bt (n + 1) = lrF pos bt n := pick_f h
      rw [e]
      rcases lrF_r n with h | h
      · exact Or.inl h
      · exact Or.inr ⟨h.1, by omega, h.2.2⟩
theorem lrF_neg {pos : Int → Prop} {bt : Int → Int → Prop} : ∀ n : Nat, lrF pos bt n < 0 ↔ ∀ r : Int, 0 ≤ r → r < n → ¬ pos r
  | 0 => ⟨fun _ r h0 h => by omega, fun _ => by show (-1 : Int) < 0; omega⟩
  | n + 1 => by
    have ih := lrF_neg (pos := pos) (bt := bt) n
    by_cases h : pos n ∧ (lrF pos bt n < 0 ∨ bt n (lrF pos bt n))
    · have e : lrF pos bt (n + 1) = n := pick_t h
      rw [e]
      exact ⟨fun z => by omega, fun z => absurd h.1 (z n (by omega) (by omega))⟩
    · have e : lrF pos bt (n + 1) = lrF pos bt n := pick_f h
      rw [e, ih]
      refine ⟨fun z r h0 hr hp => ?_, fun z r h0 hr => z r h0 (by omega)⟩
      by_cases hrn : r = n
      · subst hrn
        exact h ⟨hp, Or.inl (ih.mpr z)⟩
      · exact z r h0 (by omega) hp
noncomputable def lrI (pos : Int → Prop) (bt : Int → Int → Prop) (j : Int) : Int := lrF pos bt j.toNat
theorem lrI_0 {pos : Int → Prop} {bt : Int → Int → Prop} : lrI pos bt 0 = -1 := rfl
theorem lrI_t {pos : Int → Prop} {bt : Int → Int → Prop} {j : Int} (h0 : 0 ≤ j) (hp : pos j) (hb : lrI pos bt j < 0 ∨ bt j (lrI pos bt j)) : lrI pos bt (j + 1) = j := by
  have e : (j + 1).toNat = j.toNat + 1 := by omega
  have e2 : ((j.toNat : Nat) : Int) = j := by omega
  unfold lrI at hb ⊢
  rw [e]
  show pick _ _ _ = _
  rw [e2]
  exact pick_t ⟨hp, hb⟩
theorem lrI_f {pos : Int → Prop} {bt : Int → Int → Prop} {j : Int} (h0 : 0 ≤ j) (hb : ¬ (pos j ∧ (lrI pos bt j < 0 ∨ bt j (lrI pos bt j)))) : lrI pos bt (j + 1) = lrI pos bt j := by
  have e : (j + 1).toNat = j.toNat + 1 := by omega
  have e2 : ((j.toNat : Nat) : Int) = j := by omega
  unfold lrI at hb ⊢
  rw [e]
  show pick _ _ _ = _
  rw [e2]
  exact pick_f hb
theorem lrI_r {pos : Int → Prop} {bt : Int → Int → Prop} {j : Int} (h0 : 0 ≤ j) : lrI pos bt j = -1 ∨ (0 ≤ lrI pos bt j ∧ lrI pos bt j < j ∧ pos (lrI pos bt j)) := by
  have h := lrF_r (pos := pos) (bt := bt) j.toNat
  have e2 : ((j.toNat : Nat) : Int) = j := by omega
  rw [e2] at h
  exact h
theorem lrI_n {pos : Int → Prop} {bt : Int → Int → Prop} {j : Int} (h0 : 0 ≤ j) : lrI pos bt j < 0 ↔ ∀ r, 0 ≤ r → r < j → ¬ pos r := by
  have h := lrF_neg (pos := pos) (bt := bt) j.toNat
  have e2 : ((j.toNat : Nat) : Int) = j := by omega
  rw [e2] at h
  exact h
/-- the first place of a kind, or -1 -/
def fstP (P : Int → Prop) (n v : Int) : Prop := (v = -1 ∧ ∀ j, 0 ≤ j → j < n → ¬ P j) ∨ (0 ≤ v ∧ v < n ∧ P v ∧ ∀ j, 0 ≤ j → j < v → ¬ P j)
theorem fstP_u {P P' : Int → Prop} {n v v' : Int} (h : fstP P n v) (h' : fstP P' n v') (he : ∀ j, 0 ≤ j → j < n → (P j ↔ P' j)) : v = v' := by
  rcases h with ⟨rfl, h⟩ | ⟨h0, h1, h2, h3⟩ <;> rcases h' with ⟨rfl, h'⟩ | ⟨h0', h1', h2', h3'⟩
  · rfl
  · exact absurd ((he _ h0' h1').mpr h2') (h _ h0' h1')
  · exact absurd ((he _ h0 h1).mp h2) (h' _ h0 h1)
  · by_cases hl : v < v'
    · exact absurd ((he _ h0 h1).mp h2) (h3' _ h0 hl)
    · by_cases hl2 : v' < v
      · exact absurd ((he _ h0' h1').mpr h2') (h3 _ h0' hl2)
      · omega
/-! the choices of a basis -/
def ordF (F : Int → Int) (q r f : Int) : Int := tF F r (F 0 + F 1) * tF F f q - tF F f (F 0 + F 1) * tF F r q
def lrP (F : Int → Int) (q r : Int) : Prop := 0 < tF F r q
def lrB (F : Int → Int) (q r f : Int) : Prop := ordF F q r f < 0 ∨ ordF F q r f = 0 ∧ F (27 + r) < F (27 + f)
noncomputable def lrV (F : Int → Int) (q : Int) : Int := lrI (lrP F q) (lrB F q) (F 1)
def bestF (F : Int → Int) : Prop := ∀ j, 0 ≤ j → j < F 0 + F 1 → ¬ 0 < rF F j
def rayF (F : Int → Int) (j : Int) : Prop := 0 < rF F j ∧ ∀ r, 0 ≤ r → r < F 1 → ¬ 0 < tF F r j
def gnF (F : Int → Int) (j f : Int) : Prop := rF F f * tF F (lrV F f) (F 0 + F 1) * tF F (lrV F j) j < rF F j * tF F (lrV F j) (F 0 + F 1) * tF F (lrV F f) f
def chP (F : Int → Int) (j : Int) : Prop := 0 < rF F j
def chB (F : Int → Int) (j f : Int) : Prop := F 26 = 1 ∧ rF F f < rF F j ∨ F 26 = 2 ∧ gnF F j f
noncomputable def chV (F : Int → Int) : Int := lrI (chP F) (chB F) (F 0 + F 1)
def openF (F : Int → Int) : Prop := ∀ j, 0 ≤ j → j < F 0 + F 1 → 0 < rF F j → 0 ≤ lrV F j
theorem lrV_r {F : Int → Int} (g : GdP F) (q : Int) : lrV F q = -1 ∨ (0 ≤ lrV F q ∧ lrV F q < F 1 ∧ 0 < tF F (lrV F q) q) := lrI_r g.2.1.1
theorem lrV_n {F : Int → Int} (g : GdP F) (q : Int) : lrV F q < 0 ↔ ∀ r, 0 ≤ r → r < F 1 → ¬ 0 < tF F r q := lrI_n g.2.1.1
theorem mul_lt_r {a b k : Int} (hk : 0 < k) : a * k < b * k ↔ a < b := ⟨fun h => Int.lt_of_mul_lt_mul_right h (by omega), fun h => Int.mul_lt_mul_of_pos_right h hk⟩
theorem fr_cmp {n d n' d' : Int} (hd : 0 < d) (hd' : 0 < d') : (nu n d * de n' d' - nu n' d' * de n d < 0 ↔ n * d' - n' * d < 0) ∧ (nu n d * de n' d' - nu n' d' * de n d = 0 ↔ n * d' - n' * d = 0) := by
  obtain ⟨h1, h2, -⟩ := nu_e (n := n) (show d ≠ 0 by omega)
  obtain ⟨h3, h4, -⟩ := nu_e (n := n') (show d' ≠ 0 by omega)
  generalize nu n d = x at *
  generalize de n d = y at *
  generalize nu n' d' = x' at *
  generalize de n' d' = y' at *
  have hk := Int.mul_pos hd hd'
  have hy := Int.mul_pos h2 h4
  have e : (x * y' - x' * y) * (d * d') = (n * d' - n' * d) * (y * y') := by
    have e1 : x * y' * (d * d') = x * d * (y' * d') := by ac_rfl
    have e2 : x' * y * (d * d') = x' * d' * (y * d) := by ac_rfl
    have e3 : n * y * (y' * d') = n * d' * (y * y') := by ac_rfl
    have e4 : n' * y' * (y * d) = n' * d * (y * y') := by ac_rfl
    rw [Int.sub_mul, e1, e2, h1, h3, e3, e4, Int.sub_mul]
  refine ⟨⟨fun h => ?_, fun h => ?_⟩, ⟨fun h => ?_, fun h => ?_⟩⟩
  · have h5 := (mul_lt_r hk).mpr h
    rw [e, Int.zero_mul] at h5
    exact (mul_lt_r hy).mp (by rw [Int.zero_mul]; exact h5)
  · have h5 := (mul_lt_r hy).mpr h
    rw [← e, Int.zero_mul] at h5
    exact (mul_lt_r hk).mp (by rw [Int.zero_mul]; exact h5)
  · rw [h, Int.zero_mul] at e
    rcases Int.mul_eq_zero.mp e.symm with h5 | h5
    · exact h5
    · omega
  · rw [h, Int.zero_mul] at e
    rcases Int.mul_eq_zero.mp e with h5 | h5
    · exact h5
    · omega
/-! the reference's tableau, once it is laid -/
def tQ (F : Int → Int) (r q : Int) : Int := tt (bF F) (Aq F q) r
theorem tQ_c {F : Int → Int} (g : GdP F) {r q : Int} (hq : q < F 0 + F 1) : tQ F r q = tF F r q := by unfold tQ tF; rw [Aq_c g hq]
theorem tQ_8 {F : Int → Int} {r : Int} : tQ F r 8 = tF F r (F 0 + F 1) := by unfold tQ tF; rw [Aq_8]
theorem tQ_b {F : Int → Int} (g : GdP F) (hN : GdN F) {r q : Int} (hr : 0 ≤ r ∧ r < 4) (hq : 0 ≤ q) : B173 (tQ F r q) := by
  have := tt_b (A := 99) hr (bF_9 g hN) (a := Aq F q) (fun i _ => Aq_b g hq)
  unfold tQ
  omega
def Laid (th : Nat) (F : Int → Int) (c : W0) : Prop := c (th + 1) = F ∧ (∀ r, 0 ≤ r → r < F 1 → c (th + 8) r = F (27 + r)) ∧ ∀ r q, 0 ≤ r → r < F 1 → 0 ≤ q → q < 9 → c (th + 6) (9 * r + q) = nu (tQ F r q) (dF F) ∧ c (th + 7) (9 * r + q) = de (tQ F r q) (dF F)
def P7 (th q : Nat) : Prop := q = th + 6 ∨ q = th + 7 ∨ q = th + 8 ∨ q = th + 9 ∨ q = th + 10 ∨ q = th + 11
theorem Laid.fs {th : Nat} {F : Int → Int} {c : W0} (h : Laid th F c) {x y : Int} : Laid th F (fs c th x y) := by
  unfold Laid
  rw [fs_n (show th + 1 ≠ th by omega), fs_n (show th + 8 ≠ th by omega), fs_n (show th + 6 ≠ th by omega), fs_n (show th + 7 ≠ th by omega)]
  exact h
theorem Elm_c {m : Int} {cs cs' : Int → Int → Int} {C : Mx} {s : Int → Int} (h : Elm m m cs C s) (e : ∀ j, 0 ≤ j → j < m → cs j = cs' j) : Elm m m cs' C s := ⟨h.1, h.2.1, fun j i h0 h1 h2 h3 => by
  rw [h.2.2 j i h0 h1 h2 h3]
  by_cases hj : j < m
  · rw [if_pos hj, if_pos hj, e j h0 hj]
  · rw [if_neg hj, if_neg hj]⟩
theorem Dep_c {m : Int} {cs cs' : Int → Int → Int} (h : Dep m cs) (e : ∀ j, 0 ≤ j → j < m → cs j = cs' j) : Dep m cs' := by
  obtain ⟨v, hv, h⟩ := h
  refine ⟨v, hv, fun i hi => Eq.trans (s4_c fun j hj => ?_) (h i hi)⟩
  by_cases h1 : j < m
  · rw [if_pos h1, if_pos h1, e j hj.1 h1]
  · rw [if_neg h1, if_neg h1]
theorem Elm_F {F : Int → Int} (g : GdP F) (hd : dF F ≠ 0) : Elm (F 1) (F 1) (fun j => aF F (F (27 + j))) (bF F) (fun j => j) := by
  refine ⟨⟨fun j h0 h1 => ⟨h0, h1⟩, fun i j _ _ _ _ h => h, fun _ _ _ => rfl, fun j _ h => h⟩, hd, fun j i h0 h1 h2 h3 => ?_⟩
  show (if 0 ≤ j ∧ j < F 1 then aF F (F (27 + j)) i else if i = j then 1 else 0) = if j < F 1 then aF F (F (27 + j)) i else if i = j then 1 else 0
  by_cases h : j < F 1
  · rw [if_pos ⟨h0, h⟩, if_pos h]
  · rw [if_neg (show ¬ (0 ≤ j ∧ j < F 1) by omega), if_neg h]
theorem laysNow_s {th : Nat} {F : Int → Int} {c : W0} (g : GdP F) (hN : GdN F) (hd : dF F ≠ 0) (hF : c (th + 1) = F) : ∃ c', f_X9_laysNow th c = some (0, c') ∧ Qs th (P7 th) c c' ∧ Laid th F c' := by
  have g1 := g.2.1
  unfold f_X9_laysNow
  have L : ∀ (k fuel : Nat) (l : Int) (c1 : W0), l + k = F 1 → 0 ≤ l → k + 1 ≤ fuel → Qs th (P7 th) c c1 → (∀ r, 0 ≤ r → r < l → c1 (th + 8) r = F (27 + r)) → ∃ c', f_X9_laysNow_2 th (fun c1 => cl (f_X9_lays th c1) fun v2 c3 => some (0, c3)) fuel l c1 = some (0, c') ∧ Qs th (P7 th) c c' ∧ Laid th F c' := by
    intro k
    induction k with
    | zero =>
      intro fuel l c1 hl h0 hf hQ h
      obtain ⟨f, rfl⟩ : ∃ f, fuel = f + 1 := ⟨fuel - 1, by omega⟩
      obtain rfl : l = F 1 := by omega
      have eS : c1 (th + 1) = F := (hQ.1 _ (by omega) (by unfold P7; omega)).trans hF
      rw [f_X9_laysNow_2_s]
      unfold b_X9_laysNow_2
      rw [eS, gd_t (by omega), bq_p (by omega)]
      obtain ⟨b, c2, e2, hQ2, h2⟩ := lays_s (c := c1) (by rw [eS]; exact g) (by rw [eS]; exact fun r a b => by rw [h r a b]; exact hN r a b)
      dsimp only
      rw [e2, cl_s]
      rw [eS] at h2
      have hcs : ∀ j, 0 ≤ j → j < F 1 → aF F (c1 (th + 8) j) = aF F (F (27 + j)) := fun j a b => by rw [h j a b]
      have hQ3 : Qs th (P7 th) c c2 := hQ.tr (hQ2.mo (fun q h => by unfold P6 at h; unfold P7; omega))
      refine ⟨c2, rfl, hQ3, (hQ2.1 _ (by omega) (by unfold P6; omega)).trans eS, fun r a b => by rw [hQ2.1 _ (by omega) (by unfold P6; omega)]; exact h r a b, fun r q a b a2 b2 => ?_⟩
      rcases h2 with ⟨-, C, s, hE, hR⟩ | ⟨-, hD⟩
      · have hu := Elm_u (Elm_c hE hcs) (Elm_F g hd) (a := Aq F q) (k := r) (by omega)
        have hn := nu_u (n := tt C (Aq F q) (s r)) (d := det4 C) (n' := tQ F r q) (d' := dF F) hE.2.1 hd (by
          show tt C (Aq F q) (s r) * det4 (bF F) = tt (bF F) (Aq F q) r * det4 C
          rw [Int.mul_comm, hu, Int.mul_comm])
        rw [(hR r q a b a2 b2).1, (hR r q a b a2 b2).2, hn.1, hn.2]
        exact ⟨rfl, rfl⟩
      · exact (Elm_dep (Elm_F g hd) g1.2 (Dep_c hD hcs)).elim
    | succ k ih =>
      intro fuel l c1 hl h0 hf hQ h
      obtain ⟨f, rfl⟩ : ∃ f, fuel = f + 1 := ⟨fuel - 1, by omega⟩
      have eS : c1 (th + 1) = F := (hQ.1 _ (by omega) (by unfold P7; omega)).trans hF
      rw [f_X9_laysNow_2_s]
      unfold b_X9_laysNow_2
      rw [eS, gd_t (by omega), bq_n (by omega), gd_t (by omega), gd_t (by omega)]
      simp only [sto]
      refine ih f (l + 1) _ (by omega) (by omega) (by omega) (hQ.tr (Qs.up (by omega) (by unfold P7; omega))) (fun r a b => ?_)
      rw [upc_s]
      by_cases e : r = l
      · rw [e, updZ_s]
      · rw [updZ_n e]; exact h r a (by omega)
  exact L (F 1).toNat LF 0 c (by omega) (by omega) (by rw [LF_g]; omega) Qs.rf (fun r a b => by omega)
section
variable {th : Nat} {F : Int → Int} {c : W0}
theorem entry9 (hL : Laid th F c) (g : GdP F) {r q : Int} (hr : 0 ≤ r ∧ r < F 1) (hq : 0 ≤ q ∧ q < 9) : f_X9_entry th r q c = some (nu (tQ F r q) (dF F)) := by
  have g1 := g.2.1
  unfold f_X9_entry
  rw [gd_t (by omega), (hL.2.2 r q hr.1 hr.2 hq.1 hq.2).1]
theorem profit9 (hF : c (th + 1) = F) (g : GdP F) {q : Int} (hq : 0 ≤ q ∧ q < 9) : f_X9_profit th q c = some (cF F q) := by
  have g0 := g.1
  unfold f_X9_profit cF
  rw [hF, gd_t (by omega)]
  by_cases h : F 0 ≤ q
  · rw [bq_p h, if_neg (by omega)]
  · rw [bq_n h, gd_t (by omega), if_pos (by omega)]
def vP (F f : Int → Int) (l : Int) : Int := s4 (fun r => if r < l then cF F (F (27 + r)) * f r else 0)
theorem vP_0 {f : Int → Int} : vP F f 0 = 0 := by
  rfl
theorem vP_s {f : Int → Int} {l : Int} (hl : 0 ≤ l ∧ l < 4) : vP F f (l + 1) = vP F f l + cF F (F (27 + l)) * f l := by
  have e : vP F f (l + 1) = s4 (fun r => (if r < l then cF F (F (27 + r)) * f r else 0) + if r = l then cF F (F (27 + r)) * f r else 0) := s4_c fun r hr => by
    by_cases h : r = l
    · subst h
      rw [if_pos (by omega), if_neg (by omega), if_pos rfl]
      omega
    · by_cases h2 : r < l
      · rw [if_pos (by omega), if_pos h2, if_neg h]
        omega
      · rw [if_neg (by omega), if_neg h2, if_neg h]
        rfl
  rw [e, s4_a, s4_1' (f := fun r => cF F (F (27 + r)) * f r) hl]
  rfl
theorem vP_b (g : GdP F) (hN : GdN F) {f : Int → Int} {l : Int} (hl : l ≤ F 1) (hf : ∀ r, 0 ≤ r ∧ r < 4 → B173 (f r)) : -62355744 ≤ vP F f l ∧ vP F f l ≤ 62355744 := by
  have h9 : ∀ r, 0 ≤ r ∧ r < 4 → -15588936 ≤ (if r < l then cF F (F (27 + r)) * f r else 0) ∧ (if r < l then cF F (F (27 + r)) * f r else 0) ≤ 15588936 := by
    intro r hr
    split
    · rename_i hm
      have := mbd (cF_9 g (hN r hr.1 (by omega)).1) (hf r hr)
      omega
    · omega
  have h0 := h9 0 (by omega); have h1 := h9 1 (by omega); have h2 := h9 2 (by omega); have h3 := h9 3 (by omega)
  simp only [vP, s4]
  omega
theorem nu_0 {D : Int} (hD : D ≠ 0) : nu 0 D = 0 ∧ de 0 D = 1 := by
  have h := nu_u (n := 0) (d := D) (n' := 0) (d' := 1) hD (by decide) (by omega)
  rw [h.1, h.2]
  exact nu_1
theorem values9 (hL : Laid th F c) (g : GdP F) (hN : GdN F) (hd : 0 < dF F) : f_X9_values th c = some (0, fs c th (nu (-rF F (F 0 + F 1)) (dF F)) (de (-rF F (F 0 + F 1)) (dF F))) := by
  have g0 := g.1; have g1 := g.2.1
  have hdb := dF_b g hN
  have L : ∀ (k fuel : Nat) (l : Int), l + k = F 1 → 0 ≤ l → k + 1 ≤ fuel → f_X9_values_8 th (fun c3 => some (0, c3)) fuel l (fs c th (nu (vP F (fun r => tQ F r 8) l) (dF F)) (de (vP F (fun r => tQ F r 8) l) (dF F))) = some (0, fs c th (nu (vP F (fun r => tQ F r 8) (F 1)) (dF F)) (de (vP F (fun r => tQ F r 8) (F 1)) (dF F))) := by
    intro k
    induction k with
    | zero =>
      intro fuel l hl h0 hf
      obtain ⟨f, rfl⟩ : ∃ f, fuel = f + 1 := ⟨fuel - 1, by omega⟩
      obtain rfl : l = F 1 := by omega
      rw [f_X9_values_8_s]
      unfold b_X9_values_8
      rw [fs_n (show th + 1 ≠ th by omega), hL.1, gd_t (by omega), bq_p (by omega)]
    | succ k ih =>
      intro fuel l hl h0 hf
      obtain ⟨f, rfl⟩ : ∃ f, fuel = f + 1 := ⟨fuel - 1, by omega⟩
      rw [f_X9_values_8_s]
      unfold b_X9_values_8
      have hn := hN l h0 (by omega)
      have hc := cF_9 g hn.1
      have hv := vP_b g hN (f := fun r => tQ F r 8) (l := l) (by omega) (fun r hr => tQ_b g hN hr (by omega))
      have ht := tQ_b g hN (r := l) (q := 8) (by omega) (by omega)
      have e8 : 9 * l + 9 - 1 = 9 * l + 8 := by omega
      rw [profit9 (c := fs c th _ _) (by rw [fs_n (by omega)]; exact hL.1) g (by rw [fs_n (by omega), hL.2.1 l h0 (by omega)]; omega), entry9 hL.fs g ⟨h0, by omega⟩ (by omega), fs_n (show th + 1 ≠ th by omega), fs_n (show th + 8 ≠ th by omega), fs_n (show th + 7 ≠ th by omega), hL.1, hL.2.1 l h0 (by omega), gd_t (by omega), bq_n (by omega), gd_t (by omega), cv_s, gd_t (by omega), cv_s, gd_t (by omega), e8, (hL.2.2 l 8 h0 (by omega) (by omega) (by omega)).2, adds (X := vP F (fun r => tQ F r 8) l) ⟨hd, by omega⟩ (by omega) (by omega) (by omega) fs_o fs_u, cl_s, fs_fs, ← vP_s (F := F) (f := fun r => tQ F r 8) (l := l) (by omega)]
      exact ih f (l + 1) (by omega) (by omega) (by omega)
  unfold f_X9_values
  rw [becs (by decide) (by decide) (by decide), cl_s, nu_1.1, nu_1.2]
  have h := L (F 1).toNat LF 0 (by omega) (by omega) (by rw [LF_g]; omega)
  rw [vP_0, (nu_0 (show dF F ≠ 0 by omega)).1, (nu_0 (show dF F ≠ 0 by omega)).2] at h
  rw [h]
  have e : -rF F (F 0 + F 1) = vP F (fun r => tQ F r 8) (F 1) := by
    unfold rF cF
    rw [if_neg (by omega), Int.mul_zero]
    have : vF F (fun r => tF F r (F 0 + F 1)) = vP F (fun r => tQ F r 8) (F 1) := by
      unfold vF vP
      refine s4_c fun r _ => ?_
      show (if r < F 1 then cF F (F (27 + r)) * tF F r (F 0 + F 1) else 0) = if r < F 1 then cF F (F (27 + r)) * tQ F r 8 else 0
      rw [tQ_8]
    omega
  rw [e]
theorem reduces9 (hL : Laid th F c) (g : GdP F) (hN : GdN F) (hd : 0 < dF F) {q : Int} (hq : 0 ≤ q ∧ q < F 0 + F 1) : f_X9_reduces th q c = some (0, fs c th (nu (rF F q) (dF F)) (de (rF F q) (dF F))) := by
  have g0 := g.1; have g1 := g.2.1
  have hdb := dF_b g hN
  have hcq := cF_9 g hq.1
  have hDc := mbd hdb hcq
  have L : ∀ (k fuel : Nat) (l : Int), l + k = F 1 → 0 ≤ l → k + 1 ≤ fuel → f_X9_reduces_13 th q (fun c4 => some (0, c4)) fuel l (fs c th (nu (dF F * cF F q - vP F (fun r => tF F r q) l) (dF F)) (de (dF F * cF F q - vP F (fun r => tF F r q) l) (dF F))) = some (0, fs c th (nu (rF F q) (dF F)) (de (rF F q) (dF F))) := by
    intro k
    induction k with
    | zero =>
      intro fuel l hl h0 hf
      obtain ⟨f, rfl⟩ : ∃ f, fuel = f + 1 := ⟨fuel - 1, by omega⟩
      obtain rfl : l = F 1 := by omega
      rw [f_X9_reduces_13_s]
      unfold b_X9_reduces_13
      rw [fs_n (show th + 1 ≠ th by omega), hL.1, gd_t (by omega), bq_p (by omega)]
      rfl
    | succ k ih =>
      intro fuel l hl h0 hf
      obtain ⟨f, rfl⟩ : ∃ f, fuel = f + 1 := ⟨fuel - 1, by omega⟩
      rw [f_X9_reduces_13_s]
      unfold b_X9_reduces_13
      have hn := hN l h0 (by omega)
      have hc := cF_9 g hn.1
      have hv := vP_b g hN (f := fun r => tF F r q) (l := l) (by omega) (fun r hr => by have := tF_b g hN hr hq; omega)
      have ht := tF_b g hN (r := l) (q := q) (by omega) hq
      have es : dF F * cF F q - vP F (fun r => tF F r q) l + -cF F (F (27 + l)) * tF F l q = dF F * cF F q - vP F (fun r => tF F r q) (l + 1) := by
        rw [vP_s (F := F) (f := fun r => tF F r q) (l := l) (by omega), Int.neg_mul]
        omega
      rw [profit9 (c := fs c th _ _) (by rw [fs_n (by omega)]; exact hL.1) g (by rw [fs_n (by omega), hL.2.1 l h0 (by omega)]; omega), entry9 hL.fs g ⟨h0, by omega⟩ (by omega), fs_n (show th + 1 ≠ th by omega), fs_n (show th + 8 ≠ th by omega), fs_n (show th + 7 ≠ th by omega), hL.1, hL.2.1 l h0 (by omega), gd_t (by omega), bq_n (by omega), gd_t (by omega), cv_s, gd_t (by omega), cv_s, gd_t (by omega), (hL.2.2 l q h0 (by omega) hq.1 (by omega)).2, tQ_c g hq.2, adds (X := dF F * cF F q - vP F (fun r => tF F r q) l) ⟨hd, by omega⟩ (by omega) (by omega) (by omega) fs_o fs_u, cl_s, fs_fs, es]
      exact ih f (l + 1) (by omega) (by omega) (by omega)
  unfold f_X9_reduces
  rw [profit9 hL.1 g ⟨hq.1, by omega⟩, cv_s, gd_t (by omega), becs ⟨by omega, by omega⟩ (by decide) (by decide), cl_s]
  have h := L (F 1).toNat LF 0 (by omega) (by omega) (by rw [LF_g]; omega)
  have hz := nu_u (n := cF F q) (d := 1) (n' := dF F * cF F q) (d' := dF F) (by decide) (by omega) (by rw [Int.mul_one, Int.mul_comm])
  rw [vP_0, Int.sub_zero, ← hz.1, ← hz.2] at h
  exact h
theorem rising9 (hL : Laid th F c) (g : GdP F) (hN : GdN F) (hd : 0 < dF F) {q : Int} (hq : 0 ≤ q ∧ q < F 0 + F 1) : f_X9_isRising th q c = some (if 0 < rF F q then 1 else 0, fs c th (nu (rF F q) (dF F)) (de (rF F q) (dF F))) := by
  unfold f_X9_isRising
  have hb := rF_b g hN hq
  have hn := nu_n (n := rF F q) (d := dF F)
  rw [reduces9 hL g hN hd hq, cl_s, fs_o, gd_t (by omega)]
  by_cases h : 0 < rF F q
  · rw [bq_n (by have := (nu_s (n := rF F q) hd).1.mpr h; omega), if_pos h]
  · rw [bq_p (Int.not_lt.mp (fun z => h ((nu_s (n := rF F q) hd).1.mp z))), if_neg h]
theorem hasEntry9 (hL : Laid th F c) (g : GdP F) (hN : GdN F) (hd : 0 < dF F) {q : Int} (hq : 0 ≤ q ∧ q < F 0 + F 1) : ∃ b, f_X9_hasEntry th q c = some b ∧ ((b = 1 ∧ ∃ r, 0 ≤ r ∧ r < F 1 ∧ 0 < tF F r q) ∨ (b = 0 ∧ ∀ r, 0 ≤ r → r < F 1 → ¬ 0 < tF F r q)) := by
  have g0 := g.1; have g1 := g.2.1
  have L : ∀ (k fuel : Nat) (l b : Int), l + k = F 1 → 0 ≤ l → k + 1 ≤ fuel → ((b = 1 ∧ ∃ r, 0 ≤ r ∧ r < F 1 ∧ 0 < tF F r q) ∨ (b = 0 ∧ ∀ r, 0 ≤ r → r < l → ¬ 0 < tF F r q)) → ∃ b', f_X9_hasEntry_4 th q c (fun v1 => gd (0 ≤ v1 ∧ v1 ≤ 1) (some v1)) fuel b l = some b' ∧ ((b' = 1 ∧ ∃ r, 0 ≤ r ∧ r < F 1 ∧ 0 < tF F r q) ∨ (b' = 0 ∧ ∀ r, 0 ≤ r → r < F 1 → ¬ 0 < tF F r q)) := by
    intro k
    induction k with
    | zero =>
      intro fuel l b hl h0 hf hI
      obtain ⟨f, rfl⟩ : ∃ f, fuel = f + 1 := ⟨fuel - 1, by omega⟩
      obtain rfl : l = F 1 := by omega
      rw [f_X9_hasEntry_4_s]
      unfold b_X9_hasEntry_4
      rw [hL.1, gd_t (by omega), bq_p (by omega)]
      dsimp only
      rw [gd_t (by omega)]
      exact ⟨b, rfl, hI⟩
    | succ k ih =>
      intro fuel l b hl h0 hf hI
      obtain ⟨f, rfl⟩ : ∃ f, fuel = f + 1 := ⟨fuel - 1, by omega⟩
      rw [f_X9_hasEntry_4_s]
      unfold b_X9_hasEntry_4
      simp only [jn]
      rw [hL.1, gd_t (by omega), bq_n (by omega), gd_t (by omega)]
      rcases hI with ⟨rfl, h⟩ | ⟨rfl, h⟩
      · rw [bq_n (by omega)]
        exact ih f (l + 1) 1 (by omega) (by omega) (by omega) (Or.inl ⟨rfl, h⟩)
      · have ht := tF_b g hN (r := l) (q := q) (by omega) hq
        have hn := nu_n (n := tF F l q) (d := dF F)
        rw [bq_p rfl, entry9 hL g ⟨h0, by omega⟩ (by omega), cv_s, tQ_c g hq.2, gd_t (by omega)]
        by_cases h2 : 0 < tF F l q
        · rw [bq_n (by have := (nu_s (n := tF F l q) hd).1.mpr h2; omega)]
          exact ih f (l + 1) 1 (by omega) (by omega) (by omega) (Or.inl ⟨rfl, l, h0, by omega, h2⟩)
        · rw [bq_p (Int.not_lt.mp (fun z => h2 ((nu_s (n := tF F l q) hd).1.mp z)))]
          refine ih f (l + 1) 0 (by omega) (by omega) (by omega) (Or.inr ⟨rfl, fun r a b => ?_⟩)
          by_cases e : r = l
          · rw [e]; exact h2
          · exact h r a (by omega)
  exact L (F 1).toNat LF 0 0 (by omega) (by omega) (by rw [LF_g]; omega) (Or.inr ⟨rfl, fun r a b => by omega⟩)
theorem isBest9 (hL : Laid th F c) (g : GdP F) (hN : GdN F) (hd : 0 < dF F) : ∃ b x y, f_X9_isBest th c = some (b, fs c th x y) ∧ ((b = 1 ∧ bestF F) ∨ (b = 0 ∧ ¬ bestF F)) := by
  have g0 := g.1; have g1 := g.2.1
  have L : ∀ (k fuel : Nat) (l b x y : Int), l + k = F 0 + F 1 → 0 ≤ l → k + 1 ≤ fuel → ((b = 1 ∧ ∀ j, 0 ≤ j → j < l → ¬ 0 < rF F j) ∨ (b = 0 ∧ ¬ bestF F)) → ∃ b' x' y', f_X9_isBest_4 th (fun v1 c2 => gd (0 ≤ v1 ∧ v1 ≤ 1) (some (v1, c2))) fuel b l (fs c th x y) = some (b', fs c th x' y') ∧ ((b' = 1 ∧ bestF F) ∨ (b' = 0 ∧ ¬ bestF F)) := by
    intro k
    induction k with
    | zero =>
      intro fuel l b x y hl h0 hf hI
      obtain ⟨f, rfl⟩ : ∃ f, fuel = f + 1 := ⟨fuel - 1, by omega⟩
      obtain rfl : l = F 0 + F 1 := by omega
      rw [f_X9_isBest_4_s]
      unfold b_X9_isBest_4 f_X9_columns
      rw [fs_n (show th + 1 ≠ th by omega), hL.1, cv_s, gd_t (by omega), bq_p (by omega)]
      dsimp only
      rw [gd_t (by omega)]
      exact ⟨b, x, y, rfl, hI⟩
    | succ k ih =>
      intro fuel l b x y hl h0 hf hI
      obtain ⟨f, rfl⟩ : ∃ f, fuel = f + 1 := ⟨fuel - 1, by omega⟩
      rw [f_X9_isBest_4_s]
      unfold b_X9_isBest_4 f_X9_columns
      rw [fs_n (show th + 1 ≠ th by omega), hL.1, cv_s, gd_t (by omega), bq_n (by omega), gd_t (by omega)]
      rcases hI with ⟨rfl, h⟩ | ⟨rfl, h⟩
      · rw [bq_n (by omega), rising9 hL.fs g hN hd ⟨h0, by omega⟩, cl_s, fs_fs]
        by_cases h2 : 0 < rF F l
        · rw [if_pos h2, gd_t (by omega), bq_n (by omega)]
          exact ih f (l + 1) 0 _ _ (by omega) (by omega) (by omega) (Or.inr ⟨rfl, fun z => z l h0 (by omega) h2⟩)
        · rw [if_neg h2, gd_t (by omega), bq_p rfl]
          refine ih f (l + 1) 1 _ _ (by omega) (by omega) (by omega) (Or.inl ⟨rfl, fun j a b => ?_⟩)
          by_cases e : j = l
          · rw [e]; exact h2
          · exact h j a (by omega)
      · rw [bq_p rfl]
        exact ih f (l + 1) 0 x y (by omega) (by omega) (by omega) (Or.inr ⟨rfl, h⟩)
  have h := L (F 0 + F 1).toNat LF 0 1 (c th 16) (c th 17) (by omega) (by omega) (by rw [LF_g]; omega) (Or.inl ⟨rfl, fun r a b => by omega⟩)
  rw [fs_id] at h
  exact h
theorem endless9 (hL : Laid th F c) (g : GdP F) (hN : GdN F) (hd : 0 < dF F) : ∃ v x y, f_X9_endless th c = some (v, fs c th x y) ∧ fstP (rayF F) (F 0 + F 1) v := by
  have g0 := g.1; have g1 := g.2.1
  have L : ∀ (k fuel : Nat) (l v x y : Int), l + 1 = k → l < F 0 + F 1 → k + 1 ≤ fuel → ((v = -1 ∧ ∀ j, l < j → j < F 0 + F 1 → ¬ rayF F j) ∨ (l < v ∧ v < F 0 + F 1 ∧ rayF F v ∧ ∀ j, l < j → j < v → ¬ rayF F j)) → ∃ v' x' y', f_X9_endless_9 th (fun v2 c3 => some (v2, c3)) fuel v l (fs c th x y) = some (v', fs c th x' y') ∧ fstP (rayF F) (F 0 + F 1) v' := by
    intro k
    induction k with
    | zero =>
      intro fuel l v x y hl h0 hf hI
      obtain ⟨f, rfl⟩ : ∃ f, fuel = f + 1 := ⟨fuel - 1, by omega⟩
      rw [f_X9_endless_9_s]
      unfold b_X9_endless_9
      rw [gd_t (by omega), bq_p (by omega)]
      refine ⟨v, x, y, rfl, ?_⟩
      rcases hI with ⟨h1, h2⟩ | ⟨h1, h2, h3, h4⟩
      · exact Or.inl ⟨h1, fun j a b => h2 j (by omega) b⟩
      · exact Or.inr ⟨by omega, h2, h3, fun j a b => h4 j (by omega) b⟩
    | succ k ih =>
      intro fuel l v x y hl h0 hf hI
      obtain ⟨f, rfl⟩ : ∃ f, fuel = f + 1 := ⟨fuel - 1, by omega⟩
      rw [f_X9_endless_9_s]
      unfold b_X9_endless_9
      rw [gd_t (by omega), bq_n (by omega), rising9 hL.fs g hN hd ⟨by omega, h0⟩, cl_s, fs_fs]
      have skip : ¬ rayF F l → ∀ x9 y9, ∃ v' x' y', f_X9_endless_9 th (fun v2 c3 => some (v2, c3)) f v (l + -1) (fs c th x9 y9) = some (v', fs c th x' y') ∧ fstP (rayF F) (F 0 + F 1) v' := fun hn x9 y9 => by
        refine ih f (l + -1) v x9 y9 (by omega) (by omega) (by omega) ?_
        rcases hI with ⟨h1, h2⟩ | ⟨h1, h2, h3, h4⟩
        · refine Or.inl ⟨h1, fun j a b => ?_⟩
          by_cases e : j = l
          · rw [e]; exact hn
          · exact h2 j (by omega) b
        · refine Or.inr ⟨by omega, h2, h3, fun j a b => ?_⟩
          by_cases e : j = l
          · rw [e]; exact hn
          · exact h4 j (by omega) b
      by_cases h2 : 0 < rF F l
      · rw [if_pos h2, gd_t (by omega), bq_n (by omega)]
        obtain ⟨b, e, hb⟩ := hasEntry9 (hL.fs (x := nu (rF F l) (dF F)) (y := de (rF F l) (dF F))) g hN hd (q := l) ⟨by omega, h0⟩
        rw [e, cv_s]
        rcases hb with ⟨rfl, r, a, b, h3⟩ | ⟨rfl, h3⟩
        · rw [gd_t (by omega), bq_n (by omega)]
          exact skip (fun z => z.2 r a b h3) _ _
        · rw [gd_t (by omega), bq_p rfl]
          exact ih f (l + -1) l _ _ (by omega) (by omega) (by omega) (Or.inr ⟨by omega, h0, ⟨h2, h3⟩, fun j a b => by omega⟩)
      · rw [if_neg h2, gd_t (by omega), bq_p rfl]
        exact skip (fun z => h2 z.1) _ _
  have h := L (F 0 + F 1).toNat LF (F 0 + F 1 - 1) (-1) (c th 16) (c th 17) (by omega) (by omega) (by rw [LF_g]; omega) (Or.inl ⟨rfl, fun j a b => by omega⟩)
  rw [fs_id] at h
  unfold f_X9_endless f_X9_columns
  rw [hL.1, cv_s]
  exact h
theorem against9 (hL : Laid th F c) (g : GdP F) (hN : GdN F) (hd : 0 < dF F) {q r f : Int} (hq : 0 ≤ q ∧ q < F 0 + F 1) (hr : 0 ≤ r ∧ r < F 1) (hf : 0 ≤ f ∧ f < F 1) (hr2 : 0 < tF F r q) (hf2 : 0 < tF F f q) : ∃ v, f_X9_against th r f q c = some v ∧ R64 v ∧ (v < 0 ↔ ordF F q r f < 0) ∧ (v = 0 ↔ ordF F q r f = 0) := by
  have g0 := g.1; have g1 := g.2.1
  have hd0 : dF F ≠ 0 := by omega
  have P : ∀ z, 0 ≤ z ∧ z < F 1 → 0 < tF F z q → ∃ n d, n = nu (tF F z (F 0 + F 1)) (dF F) * de (tF F z q) (dF F) ∧ d = de (tF F z (F 0 + F 1)) (dF F) * nu (tF F z q) (dF F) ∧ (-272746523 * 1000 ≤ n ∧ n ≤ 272746523 * 1000) ∧ (0 < d ∧ d ≤ 24794911296) ∧ nu n d = nu (tF F z (F 0 + F 1)) (tF F z q) ∧ de n d = de (tF F z (F 0 + F 1)) (tF F z q) := by
    intro z hz hz2
    have b1 := tF_b9 g hN (r := z) (q := F 0 + F 1) (by omega) (by omega)
    have b2 := tF_b g hN (r := z) (q := q) (by omega) hq
    have b3 := dF_b g hN
    have n1 := nu_n (n := tF F z (F 0 + F 1)) (d := dF F); have n2 := de_n (n := tF F z (F 0 + F 1)) (d := dF F)
    have n3 := nu_n (n := tF F z q) (d := dF F); have n4 := de_n (n := tF F z q) (d := dF F)
    obtain ⟨x1, x2, -⟩ := nu_e (n := tF F z (F 0 + F 1)) hd0
    obtain ⟨y1, y2, -⟩ := nu_e (n := tF F z q) hd0
    have y3 := (nu_s (n := tF F z q) hd).1.mpr hz2
    have fd := fr_div (X := tF F z (F 0 + F 1)) (T := tF F z q) hd0 (by omega)
    have m1 := mbd (x := nu (tF F z (F 0 + F 1)) (dF F)) (A := 1732104) (by omega) (show -157464 ≤ de (tF F z q) (dF F) ∧ de (tF F z q) (dF F) ≤ 157464 by omega)
    have m2 := mbd (x := de (tF F z (F 0 + F 1)) (dF F)) (A := 157464) (by omega) (show -157464 ≤ nu (tF F z q) (dF F) ∧ nu (tF F z q) (dF F) ≤ 157464 by omega)
    have m3 := Int.mul_pos x2 y3
    exact ⟨_, _, rfl, rfl, by omega, by omega, fd.2.1, fd.2.2⟩
  obtain ⟨n, d, en, ed, bn, bd, u1, u2⟩ := P r hr hr2
  obtain ⟨n', d', en', ed', bn', bd', u1', u2'⟩ := P f hf hf2
  have cm := fr_cmp (n := tF F r (F 0 + F 1)) (n' := tF F f (F 0 + F 1)) hr2 hf2
  unfold f_X9_against
  have e8 : ∀ z : Int, 9 * z + 9 - 1 = 9 * z + 8 := fun z => by omega
  rw [entry9 hL g hr (by omega), entry9 hL g hr (by omega), entry9 hL g hf (by omega), entry9 hL g hf (by omega), cv_s, gd_t (by omega), gd_t (by omega), cv_s, cv_s, gd_t (by omega), gd_t (by omega), cv_s, e8, e8, (hL.2.2 r 8 hr.1 hr.2 (by omega) (by omega)).2, (hL.2.2 r q hr.1 hr.2 hq.1 (by omega)).2, (hL.2.2 f 8 hf.1 hf.2 (by omega) (by omega)).2, (hL.2.2 f q hf.1 hf.2 hq.1 (by omega)).2, tQ_8, tQ_8, tQ_c g hq.2, tQ_c g hq.2, ← en, ← ed, ← en', ← ed']
  have G1 := gcd_lt (a := n) (b := d) (by omega)
  have G2 := gcd_lt (a := n') (b := d') (by omega)
  rw [div9 ⟨by omega, by omega⟩ ⟨by omega, by omega⟩, cv_s, div9 ⟨by omega, by omega⟩ ⟨by omega, by omega⟩, cv_s, gd_t ⟨by omega, by omega, by omega⟩, gd_t ⟨by omega, by omega, by omega⟩, gd_t ⟨by omega, by omega, by omega⟩, gd_t ⟨by omega, by omega, by omega⟩]
  have a1 : Int.tdiv n (Int.gcd n d) = nu n d := by unfold nu; rw [if_neg (by omega)]
  have a2 : Int.tdiv d (Int.gcd n d) = de n d := by unfold de; rw [if_neg (by omega)]
  have a3 : Int.tdiv n' (Int.gcd n' d') = nu n' d' := by unfold nu; rw [if_neg (by omega)]
  have a4 : Int.tdiv d' (Int.gcd n' d') = de n' d' := by unfold de; rw [if_neg (by omega)]
  rw [a1, a2, a3, a4, u1, u2, u1', u2']
  have b1 := tF_b9 g hN (r := r) (q := F 0 + F 1) (by omega) (by omega)
  have b2 := tF_b g hN (r := r) (q := q) (by omega) hq
  have b3 := tF_b9 g hN (r := f) (q := F 0 + F 1) (by omega) (by omega)
  have b4 := tF_b g hN (r := f) (q := q) (by omega) hq
  have n1 := nu_n (n := tF F r (F 0 + F 1)) (d := tF F r q); have n2 := de_n (n := tF F r (F 0 + F 1)) (d := tF F r q)
  have n3 := nu_n (n := tF F f (F 0 + F 1)) (d := tF F f q); have n4 := de_n (n := tF F f (F 0 + F 1)) (d := tF F f q)
  have m1 := mbd (x := nu (tF F r (F 0 + F 1)) (tF F r q)) (A := 1732104) (by omega) (show -157464 ≤ de (tF F f (F 0 + F 1)) (tF F f q) ∧ de (tF F f (F 0 + F 1)) (tF F f q) ≤ 157464 by omega)
  have m2 := mbd (x := nu (tF F f (F 0 + F 1)) (tF F f q)) (A := 1732104) (by omega) (show -157464 ≤ de (tF F r (F 0 + F 1)) (tF F r q) ∧ de (tF F r (F 0 + F 1)) (tF F r q) ≤ 157464 by omega)
  exact ⟨_, rfl, by omega, cm.1, cm.2⟩
end
end MQ
