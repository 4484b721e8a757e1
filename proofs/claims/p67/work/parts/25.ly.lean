section LY
def Aq (F : Int → Int) (q : Int) : Int → Int := if q = 8 then aF F (F 0 + F 1) else if q < F 0 + F 1 then aF F q else fun _ => 0
theorem Aq_c {F : Int → Int} (g : GdP F) {q : Int} (hq : q < F 0 + F 1) : Aq F q = aF F q := by
  unfold Aq
  have := g.1; have := g.2.1
  rw [if_neg (by omega), if_pos hq]
theorem Aq_8 {F : Int → Int} : Aq F 8 = aF F (F 0 + F 1) := if_pos rfl
theorem Aq_b {F : Int → Int} (g : GdP F) {q i : Int} (hq : 0 ≤ q) : -99 ≤ Aq F q i ∧ Aq F q i ≤ 99 := by
  have := g.1; have := g.2.1
  unfold Aq
  split
  · exact aF_99 g (by omega)
  · split
    · exact aF_99 g (by omega)
    · show -99 ≤ (0 : Int) ∧ (0 : Int) ≤ 99
      omega
theorem aF_hi {F : Int → Int} {q i : Int} (h : F 1 ≤ i) : aF F q i = 0 := by
  unfold aF
  rw [if_neg (by omega)]
theorem ff9 {th : Nat} {c : W0} {r q : Int} (g : GdP (c (th + 1))) (hr : 0 ≤ r ∧ r < c (th + 1) 1) (hq : 0 ≤ q) (hq2 : q < c (th + 1) 0 + c (th + 1) 1 ∨ q = 8) : f_X9_firstFactor th r q c = some (Aq (c (th + 1)) q r) := by
  have g0 := g.1; have g1 := g.2.1
  unfold f_X9_firstFactor Aq
  rw [gd_t (by omega)]
  by_cases h8 : q = 8
  · rw [bq_p h8, gd_t (by omega), if_pos h8]
    unfold aF
    rw [if_pos hr, if_neg (by omega), if_pos rfl]
  · rw [bq_n h8, gd_t (by omega), if_neg h8, if_pos (by omega)]
    unfold aF
    rw [if_pos hr]
    by_cases h1 : c (th + 1) 0 ≤ q
    · rw [bq_p h1, gd_t (by omega), if_neg (by omega), if_neg (by omega)]
      by_cases h2 : q - c (th + 1) 0 = r
      · rw [bq_p h2, if_pos h2]
      · rw [bq_n h2, if_neg h2]
    · rw [bq_n h1, gd_t (by omega), if_pos (by omega)]
def P1 (th q : Nat) : Prop := q = th + 10 ∨ q = th + 11
def P9 (th q : Nat) : Prop := q = th + 9 ∨ q = th + 10 ∨ q = th + 11
def P6 (th q : Nat) : Prop := q = th + 6 ∨ q = th + 7 ∨ q = th + 9 ∨ q = th + 10 ∨ q = th + 11
theorem td9 {l : Int} (h : 0 ≤ l) : Int.tdiv l 9 = l / 9 := Int.tdiv_eq_ediv_of_nonneg h
theorem tm9 {l : Int} (h : 0 ≤ l) : Int.tmod l 9 = l % 9 := Int.tmod_eq_emod_of_nonneg h
theorem lays2 {β : Type} {th : Nat} {c : W0} (g : GdP (c (th + 1))) (κ : W0 → Option (Int × W0)) : ∃ c1, f_X9_lays_2 th κ LF 0 c = κ c1 ∧ Qs th (P1 th) c c1 ∧ ∀ r q, 0 ≤ r → r < c (th + 1) 1 → 0 ≤ q → q < 9 → c1 (th + 10) (9 * r + q) = Aq (c (th + 1)) q r ∧ c1 (th + 11) (9 * r + q) = 1 := by
  have g0 := g.1; have g1 := g.2.1
  have L : ∀ (k fuel : Nat) (l : Int) (c1 : W0), l + k = 9 * c (th + 1) 1 → 0 ≤ l → k + 1 ≤ fuel → Qs th (P1 th) c c1 → (∀ r q, 0 ≤ r → 0 ≤ q → q < 9 → 9 * r + q < l → c1 (th + 10) (9 * r + q) = Aq (c (th + 1)) q r ∧ c1 (th + 11) (9 * r + q) = 1) →
      ∃ c1', f_X9_lays_2 th κ fuel l c1 = κ c1' ∧ Qs th (P1 th) c c1' ∧ ∀ r q, 0 ≤ r → r < c (th + 1) 1 → 0 ≤ q → q < 9 → c1' (th + 10) (9 * r + q) = Aq (c (th + 1)) q r ∧ c1' (th + 11) (9 * r + q) = 1 := by
    intro k
    induction k with
    | zero =>
      intro fuel l c1 hl h0 hf hQ hd
      obtain ⟨f, rfl⟩ : ∃ f, fuel = f + 1 := ⟨fuel - 1, by omega⟩
      rw [f_X9_lays_2_s]
      unfold b_X9_lays_2
      have eS : c1 (th + 1) = c (th + 1) := hQ.1 _ (by omega) (by unfold P1; omega)
      rw [eS, gd_t (by omega), bq_p (by omega)]
      exact ⟨c1, rfl, hQ, fun r q a b a2 b2 => hd r q a a2 b2 (by omega)⟩
    | succ k ih =>
      intro fuel l c1 hl h0 hf hQ hd
      obtain ⟨f, rfl⟩ : ∃ f, fuel = f + 1 := ⟨fuel - 1, by omega⟩
      rw [f_X9_lays_2_s]
      unfold b_X9_lays_2
      have eS : c1 (th + 1) = c (th + 1) := hQ.1 _ (by omega) (by unfold P1; omega)
      have step : ∀ v : Int, v = Aq (c (th + 1)) (l % 9) (l / 9) → ∃ c1', f_X9_lays_2 th κ f (l + 1) (upc (upc c1 (th + 10) (updZ (c1 (th + 10)) l v)) (th + 11) (updZ (upc c1 (th + 10) (updZ (c1 (th + 10)) l v) (th + 11)) l 1)) = κ c1' ∧ Qs th (P1 th) c c1' ∧ ∀ r q, 0 ≤ r → r < c (th + 1) 1 → 0 ≤ q → q < 9 → c1' (th + 10) (9 * r + q) = Aq (c (th + 1)) q r ∧ c1' (th + 11) (9 * r + q) = 1 := by
        intro v hv
        refine ih f (l + 1) _ (by omega) (by omega) (by omega) ((hQ.tr (Qs.up (by omega) (Or.inl rfl))).tr (Qs.up (by omega) (Or.inr rfl))) (fun r q hr0 hq0 hq hl2 => ?_)
        rw [upc_n (by omega), upc_s, upc_s, upc_n (by omega)]
        by_cases e : 9 * r + q = l
        · rw [e, updZ_s, updZ_s, hv, show l % 9 = q by omega, show l / 9 = r by omega]
          exact ⟨rfl, rfl⟩
        · rw [updZ_n e, updZ_n e]
          exact hd r q hr0 hq0 hq (by omega)
      unfold f_X9_columns
      simp only [jn]
      rw [eS, gd_t (by omega), bq_n (by omega), gd_t (by omega), cv_s, td9 h0, tm9 h0, gd_t (by omega)]
      by_cases h1 : l % 9 < c (th + 1) 0 + c (th + 1) 1
      · rw [bq_p h1, gd_t (by omega), ff9 (c := c1) (by rw [eS]; exact g) (by rw [eS]; omega) (by omega) (Or.inl (by rw [eS]; exact h1)), eS, cv_s]
        have hb := Aq_b g (q := l % 9) (i := l / 9) (by omega)
        rw [gd_t (by omega), gd_t (by omega)]
        simp only [sto]
        rw [gd_t (by omega)]
        exact step _ rfl
      · rw [bq_n h1, gd_t (by omega)]
        by_cases h2 : l % 9 = 8
        · rw [bq_p h2, gd_t (by omega), ff9 (c := c1) (by rw [eS]; exact g) (by rw [eS]; omega) (by omega) (Or.inr h2), eS, cv_s]
          have hb := Aq_b g (q := l % 9) (i := l / 9) (by omega)
          rw [gd_t (by omega), gd_t (by omega)]
          simp only [sto]
          rw [gd_t (by omega)]
          exact step _ rfl
        · rw [bq_n h2, gd_t (by omega)]
          simp only [sto]
          rw [gd_t (by omega)]
          refine step 0 ?_
          unfold Aq
          rw [if_neg h2, if_neg h1]
  exact L (9 * c (th + 1) 1).toNat LF 0 c (by omega) (by omega) (by rw [LF_g]; omega) Qs.rf (fun r q a b _ h => by omega)
/-- the rows of the elimination -/
def Rws (th : Nat) (F : Int → Int) (C : Mx) (c : W0) : Prop := ∀ r q, 0 ≤ r → r < F 1 → 0 ≤ q → q < 9 → c (th + 10) (9 * r + q) = nu (tt C (Aq F q) r) (det4 C) ∧ c (th + 11) (9 * r + q) = de (tt C (Aq F q) r) (det4 C)
theorem lays152 {th : Nat} {F : Int → Int} {k v l1 : Int} {C : Mx} {c c0 : W0} {w : Int → Int} (g : GdP F) (hF : c (th + 1) = F) (hk : 0 ≤ k ∧ k < F 1) (hv : 0 ≤ v ∧ v < F 1) (hq : 0 ≤ c (th + 8) k ∧ c (th + 8) k < F 0 + F 1) (hC : ∀ x y, 0 ≤ x ∧ x < 4 → 0 ≤ y ∧ y < 4 → B9 (C x y)) (hD : det4 C ≠ 0) (hT : tt C (aF F (c (th + 8) k)) v ≠ 0)
    (hv9 : ∀ q, 0 ≤ q → q < 9 → c (th + 10) (9 * v + q) = nu (tt C (Aq F q) v) (tt C (aF F (c (th + 8) k)) v) ∧ c (th + 11) (9 * v + q) = de (tt C (Aq F q) v) (tt C (aF F (c (th + 8) k)) v)) (hr9 : ∀ r q, 0 ≤ r → r < F 1 → r ≠ v → 0 ≤ q → q < 9 → c (th + 10) (9 * r + q) = nu (tt C (Aq F q) r) (det4 C) ∧ c (th + 11) (9 * r + q) = de (tt C (Aq F q) r) (det4 C)) (κ : W0 → Option (Int × W0)) :
    ∃ c1, f_X9_lays_152 th l1 k v κ LF 0 c = κ c1 ∧ Qs th (P1 th) c c1 ∧ Rws th F (col C v (aF F (c (th + 8) k))) c1 := by
  have g0 := g.1; have g1 := g.2.1
  have hp4 : 0 ≤ v ∧ v < 4 := by omega
  have eT : det4 (col C v (aF F (c (th + 8) k))) = tt C (aF F (c (th + 8) k)) v := det_col hp4
  have hAq := Aq_c g hq.2
  have tb : ∀ r q, 0 ≤ r → r < 4 → 0 ≤ q → B173 (tt C (Aq F q) r) := fun r q h0 h1 hq0 => by
    have := tt_b (A := 99) (r := r) ⟨h0, h1⟩ hC (a := Aq F q) (fun i _ => Aq_b g hq0)
    omega
  have tb9 : ∀ r, 0 ≤ r → r < 4 → B157 (tt C (aF F (c (th + 8) k)) r) := fun r h0 h1 => by
    have := tt_b (A := 9) (r := r) ⟨h0, h1⟩ hC (a := aF F (c (th + 8) k)) (fun i _ => aF_9 g hq)
    omega
  have hDb := det_b hC
  have L : ∀ (n fuel : Nat) (l : Int) (c1 : W0), l + n = F 1 → 0 ≤ l → n + 1 ≤ fuel → Qs th (P1 th) c c1 → (∀ r q, 0 ≤ r → r < F 1 → 0 ≤ q → q < 9 → (r < l ∨ r = v) → c1 (th + 10) (9 * r + q) = nu (tt (col C v (aF F (c (th + 8) k))) (Aq F q) r) (tt C (aF F (c (th + 8) k)) v) ∧ c1 (th + 11) (9 * r + q) = de (tt (col C v (aF F (c (th + 8) k))) (Aq F q) r) (tt C (aF F (c (th + 8) k)) v)) → (∀ r q, 0 ≤ r → r < F 1 → 0 ≤ q → q < 9 → ¬ (r < l ∨ r = v) → c1 (th + 10) (9 * r + q) = nu (tt C (Aq F q) r) (det4 C) ∧ c1 (th + 11) (9 * r + q) = de (tt C (Aq F q) r) (det4 C)) →
      ∃ c1', f_X9_lays_152 th l1 k v κ fuel l c1 = κ c1' ∧ Qs th (P1 th) c c1' ∧ Rws th F (col C v (aF F (c (th + 8) k))) c1' := by
    intro n
    induction n with
    | zero =>
      intro fuel l c1 hl h0 hf hQ hd hu
      obtain ⟨f, rfl⟩ : ∃ f, fuel = f + 1 := ⟨fuel - 1, by omega⟩
      rw [f_X9_lays_152_s]
      unfold b_X9_lays_152
      have eS : c1 (th + 1) = F := (hQ.1 _ (by omega) (by unfold P1; omega)).trans hF
      rw [eS, gd_t (by omega), bq_p (by omega)]
      refine ⟨c1, rfl, hQ, fun r q a b a2 b2 => ?_⟩
      rw [eT]
      exact hd r q a b a2 b2 (Or.inl (by omega))
    | succ n ih =>
      intro fuel l c1 hl h0 hf hQ hd hu
      obtain ⟨f, rfl⟩ : ∃ f, fuel = f + 1 := ⟨fuel - 1, by omega⟩
      rw [f_X9_lays_152_s]
      unfold b_X9_lays_152
      have eS : c1 (th + 1) = F := (hQ.1 _ (by omega) (by unfold P1; omega)).trans hF
      have e8 : c1 (th + 8) = c (th + 8) := hQ.1 _ (by omega) (by unfold P1; omega)
      rw [eS, gd_t (by omega), bq_n (by omega), gd_t (by omega)]
      by_cases hlv : l = v
      · rw [bq_p hlv]
        refine ih f (l + 1) c1 (by omega) (by omega) (by omega) hQ (fun r q a b a2 b2 h => hd r q a b a2 b2 (by omega)) (fun r q a b a2 b2 h => hu r q a b a2 b2 (by omega))
      · have hRow := fun q a b => hu l q h0 (by omega) a b (by omega)
        have hPv := fun q a b => hd v q hv.1 hv.2 a b (Or.inr rfl)
        have eq := hRow (c (th + 8) k) hq.1 (by omega)
        rw [hAq] at eq
        obtain ⟨c2, e2, hQ2, hn2, ho2⟩ := less (th := th) (r := l) (p := v) (T := tt C (aF F (c (th + 8) k)) v) (D := det4 C) (Q := tt C (aF F (c (th + 8) k)) l) (R := fun q => tt C (Aq F q) l) (P := fun q => tt C (Aq F q) v) (V := fun q => tt (col C v (aF F (c (th + 8) k))) (Aq F q) l) (c := c1) hp4 (by omega) hlv hD hDb hT (tb9 v hp4.1 hp4.2) (tb9 l h0 (by omega)) (fun q a _ => tb l q h0 (by omega) a) (fun q a _ => tb v q hp4.1 hp4.2 a) (fun q a _ => by
          show det4 C * tt (col C v (aF F (c (th + 8) k))) (Aq F q) l = _
          rw [tt_piv hp4 (by omega) hlv, eT]) hRow (fun q a b => by
          have := hPv q a b
          rw [tt_col hp4] at this
          exact this)
        rw [bq_n hlv, e8, gd_t (by omega), gd_t (by omega), gd_t (by omega), gd_t (by omega), eq.1, eq.2, e2, cl_s]
        refine ih f (l + 1) c2 (by omega) (by omega) (by omega) (hQ.tr hQ2) (fun r q a b a2 b2 h => ?_) (fun r q a b a2 b2 h => ?_)
        · by_cases e : r = l
          · rw [e]; exact hn2 q a2 b2
          · have := ho2 (9 * r + q) (by omega)
            rw [this.1, this.2]
            exact hd r q a b a2 b2 (by omega)
        · have := ho2 (9 * r + q) (by omega)
          rw [this.1, this.2]
          exact hu r q a b a2 b2 (by omega)
  refine L (F 1).toNat LF 0 c (by omega) (by omega) (by rw [LF_g]; omega) Qs.rf (fun r q a b a2 b2 h => ?_) (fun r q a b a2 b2 h => hr9 r q a b (by omega) a2 b2)
  obtain rfl : r = v := by omega
  rw [tt_col hp4]
  exact hv9 q a2 b2
theorem surj4 {m : Int} {s : Int → Int} (h : Pm m s) {y : Int} (hy : 0 ≤ y ∧ y < 4) : ∃ j, (0 ≤ j ∧ j < 4) ∧ s j = y := by
  have a0 := h.1 0 (by omega) (by omega); have a1 := h.1 1 (by omega) (by omega); have a2 := h.1 2 (by omega) (by omega); have a3 := h.1 3 (by omega) (by omega)
  have hi := h.2.1
  have e1 := hi 1 0 (by omega) (by omega) (by omega) (by omega)
  have e2 := hi 2 0 (by omega) (by omega) (by omega) (by omega)
  have e3 := hi 3 0 (by omega) (by omega) (by omega) (by omega)
  have e4 := hi 2 1 (by omega) (by omega) (by omega) (by omega)
  have e5 := hi 3 1 (by omega) (by omega) (by omega) (by omega)
  have e6 := hi 3 2 (by omega) (by omega) (by omega) (by omega)
  have hq : s 0 = y ∨ s 1 = y ∨ s 2 = y ∨ s 3 = y := by omega
  rcases hq with q | q | q | q
  · exact ⟨0, by omega, q⟩
  · exact ⟨1, by omega, q⟩
  · exact ⟨2, by omega, q⟩
  · exact ⟨3, by omega, q⟩
theorem lays71 {th : Nat} {F : Int → Int} {c : W0} (g : GdP F) (hF : c (th + 1) = F) (hN : ∀ r, 0 ≤ r → r < F 1 → 0 ≤ c (th + 8) r ∧ c (th + 8) r < F 0 + F 1) (h1 : ∀ r q, 0 ≤ r → r < F 1 → 0 ≤ q → q < 9 → c (th + 10) (9 * r + q) = Aq F q r ∧ c (th + 11) (9 * r + q) = 1) (κ : W0 → Option (Int × W0)) :
    ∃ c1, Qs th (P9 th) c c1 ∧ ((f_X9_lays_71 th κ LF 0 0 c = κ c1 ∧ ∃ C s, Elm (F 1) (F 1) (fun j => aF F (c (th + 8) j)) C s ∧ Rws th F C c1 ∧ ∀ j, 0 ≤ j → j < F 1 → c1 (th + 9) j = s j) ∨ (f_X9_lays_71 th κ LF 0 0 c = some (0, c1) ∧ Dep (F 1) (fun j => aF F (c (th + 8) j)))) := by
  have g0 := g.1; have g1 := g.2.1
  have hcs : ∀ j i, 0 ≤ j → j < F 1 → F 1 ≤ i → aF F (c (th + 8) j) i = 0 := fun j i _ _ h => aF_hi h
  have hc9 : ∀ j i, 0 ≤ j → j < F 1 → 0 ≤ i → i < 4 → B9 (aF F (c (th + 8) j) i) := fun j i a b _ _ => aF_9 g (hN j a b)
  have L : ∀ (n fuel : Nat) (u k : Int) (c1 : W0) (C : Mx) (s : Int → Int), k + n = F 1 → 0 ≤ k → n + 1 ≤ fuel → Qs th (P9 th) c c1 → 0 ≤ u ∧ u < 16 → Elm (F 1) k (fun j => aF F (c (th + 8) j)) C s → Rws th F C c1 → (∀ j, 0 ≤ j → j < k → c1 (th + 9) j = s j) → (∀ j, 0 ≤ j → j < 4 → (bt u (s j) = 0 ↔ ¬ j < k)) →
      ∃ c1', Qs th (P9 th) c c1' ∧ ((f_X9_lays_71 th κ fuel u k c1 = κ c1' ∧ ∃ C s, Elm (F 1) (F 1) (fun j => aF F (c (th + 8) j)) C s ∧ Rws th F C c1' ∧ ∀ j, 0 ≤ j → j < F 1 → c1' (th + 9) j = s j) ∨ (f_X9_lays_71 th κ fuel u k c1 = some (0, c1') ∧ Dep (F 1) (fun j => aF F (c (th + 8) j)))) := by
    intro n
    induction n with
    | zero =>
      intro fuel u k c1 C s hk h0 hf hQ hu hE hR hs hb
      obtain ⟨f, rfl⟩ : ∃ f, fuel = f + 1 := ⟨fuel - 1, by omega⟩
      obtain rfl : k = F 1 := by omega
      have eS : c1 (th + 1) = F := (hQ.1 _ (by omega) (by unfold P9; omega)).trans hF
      refine ⟨c1, hQ, Or.inl ⟨?_, C, s, hE, hR, hs⟩⟩
      rw [f_X9_lays_71_s]
      unfold b_X9_lays_71
      rw [eS, gd_t (by omega), bq_p (by omega)]
    | succ n ih =>
      intro fuel u k c1 C s hk h0 hf hQ hu hE hR hs hb
      obtain ⟨f, rfl⟩ : ∃ f, fuel = f + 1 := ⟨fuel - 1, by omega⟩
      have eS : c1 (th + 1) = F := (hQ.1 _ (by omega) (by unfold P9; omega)).trans hF
      have e8 : c1 (th + 8) = c (th + 8) := hQ.1 _ (by omega) (by unfold P9; omega)
      have hq := hN k h0 (by omega)
      have hAq := Aq_c g hq.2
      have hC := Elm_9 hE hc9 (by omega)
      have hDb := det_b hC
      have tb : ∀ r q, 0 ≤ r → r < 4 → 0 ≤ q → B173 (tt C (Aq F q) r) := fun r q h0 h1 hq0 => by
        have := tt_b (A := 99) (r := r) ⟨h0, h1⟩ hC (a := Aq F q) (fun i _ => Aq_b g hq0)
        omega
      rw [f_X9_lays_71_s]
      unfold b_X9_lays_71
      rw [eS, gd_t (by omega), bq_n (by omega), gd_t (by omega), e8]
      obtain ⟨v, ev, hv⟩ := free (th := th) (q := c (th + 8) k) (u := u) (m := F 1) (c := c1) g1 (by rw [eS]) hu (by omega) (fun r a b => by
        rw [(hR r _ a b hq.1 (by omega)).1]
        have := nu_n (n := tt C (Aq F (c (th + 8) k)) r) (d := det4 C)
        have := tb r (c (th + 8) k) a (by omega) hq.1
        omega)
      rw [ev, cv_s, gd_t (by omega)]
      rcases hv with ⟨rfl, hno⟩ | ⟨hv0, hv1, hbv, hnz⟩
      · rw [bq_n (by omega)]
        refine ⟨c1, hQ, Or.inr ⟨rfl, Elm_fail hE ⟨h0, by omega⟩ g1.2 hcs (fun j a b => ?_)⟩⟩
        have hsj := hE.1.2.2.2 j (by omega) b
        have hsj0 := (hE.1.1 j (by omega) (by omega)).1
        have h9 := hno (s j) hsj0 hsj
        rw [(hR _ _ hsj0 hsj hq.1 (by omega)).1, hAq] at h9
        exact Classical.byContradiction fun z => h9 ⟨(hb j (by omega) (by omega)).mpr (by omega), nu_nz hE.2.1 z⟩
      · rw [bq_p hv0, gd_t (by omega)]
        have hv4 : 0 ≤ v ∧ v < 4 := by omega
        obtain ⟨j0, hj0, rfl⟩ := surj4 hE.1 hv4
        have hjk := (hb j0 hj0.1 hj0.2).mp hbv
        have hjm : j0 < F 1 := by
          by_cases h : j0 < F 1
          · exact h
          · have := hE.1.2.2.1 j0 (by omega) hj0.2
            omega
        have hE1 := Elm_swp hE h0 ⟨by omega, hjm⟩ g1.2
        have hnz2 : tt C (aF F (c (th + 8) k)) (s j0) ≠ 0 := fun z => by
          rw [(hR _ _ hv0 hv1 hq.1 (by omega)).1, hAq, z] at hnz
          exact hnz ((nu_z hE.2.1).mpr rfl)
        have hE2 := Elm_piv hE1 ⟨h0, by omega⟩ g1.2 (by rw [swp_a]; exact hnz2)
        rw [swp_a] at hE2
        simp only [sto]
        have e8' : upc c1 (th + 9) (updZ (c1 (th + 9)) k (s j0)) (th + 8) = c (th + 8) := by rw [upc_n (by omega), e8]
        have e10 : upc c1 (th + 9) (updZ (c1 (th + 9)) k (s j0)) (th + 10) = c1 (th + 10) := upc_n (by omega)
        have e11 : upc c1 (th + 9) (updZ (c1 (th + 9)) k (s j0)) (th + 11) = c1 (th + 11) := upc_n (by omega)
        have eR := hR (s j0) (c (th + 8) k) hv0 hv1 hq.1 (by omega)
        rw [hAq] at eR
        have tT : B157 (tt C (aF F (c (th + 8) k)) (s j0)) := by
          have := tt_b (A := 9) (r := s j0) hv4 hC (a := aF F (c (th + 8) k)) (fun i _ => aF_9 g hq)
          omega
        obtain ⟨c2, e2, hQ2, hn2, ho2⟩ := divs (th := th) (p := s j0) (T := tt C (aF F (c (th + 8) k)) (s j0)) (D := det4 C) (X := fun q => tt C (Aq F q) (s j0)) (c := upc c1 (th + 9) (updZ (c1 (th + 9)) k (s j0))) hv4 hE.2.1 hDb hnz2 tT (fun q a _ => tb _ q hv4.1 hv4.2 a) (fun q a b => by rw [e10, e11]; exact hR _ q hv0 hv1 a b)
        rw [gd_t (by omega), e8', gd_t (by omega), gd_t (by omega), gd_t (by omega), e10, e11, eR.1, eR.2, e2, cl_s]
        have hQ3 : Qs th (P9 th) c c2 := (hQ.tr (Qs.up (by omega) (Or.inl rfl))).tr (hQ2.mo (fun q h => Or.inr h))
        have e8c : c2 (th + 8) = c (th + 8) := hQ3.1 _ (by omega) (by unfold P9; omega)
        have e9c : c2 (th + 9) = updZ (c1 (th + 9)) k (s j0) := by rw [hQ2.1 _ (by omega) (by omega), upc_s]
        obtain ⟨c3, e3, hQ4, hR3⟩ := lays152 (th := th) (F := F) (k := k) (v := s j0) (l1 := iorZ u (ishlZ 1 (s j0))) (C := C) (c := c2) (c0 := c) (w := s) g ((hQ3.1 _ (by omega) (by unfold P9; omega)).trans hF) ⟨h0, by omega⟩ ⟨hv0, hv1⟩ (by rw [e8c]; exact hq) hC hE.2.1 (by rw [e8c]; exact hnz2) (by rw [e8c]; exact hn2) (fun r q a b hne a2 b2 => by
          have := ho2 (9 * r + q) (by omega)
          rw [this.1, this.2, e10, e11]
          exact hR r q a b a2 b2) (fun c5 => f_X9_lays_71 th κ f (iorZ u (ishlZ 1 (s j0))) (k + 1) c5)
        rw [e3]
        rw [e8c] at hR3
        refine ih f (iorZ u (ishlZ 1 (s j0))) (k + 1) c3 _ (swp s k j0) (by omega) (by omega) (by omega) (hQ3.tr (hQ4.mo (fun q h => Or.inr h))) (bt_s hu hv4 hv4).1 hE2 hR3 (fun j a b => ?_) (fun j a b => ?_)
        · rw [hQ4.1 _ (by omega) (by unfold P1; omega), e9c]
          by_cases e : j = k
          · rw [e, updZ_s, swp_a]
          · rw [updZ_n e, swp_n e (by omega)]
            exact hs j a (by omega)
        · have hp := Pm_swp hE.1 (a := k) (b := j0) ⟨h0, by omega⟩ ⟨by omega, hjm⟩ g1.2
          rw [(bt_s hu hv4 (hp.1 j a b)).2]
          by_cases e : j = k
          · rw [e, swp_a]
            exact ⟨fun z => absurd rfl z.1, fun z => absurd (show k < k + 1 by omega) z⟩
          · by_cases e2 : j = j0
            · rw [e2, swp_b]
              exact ⟨fun _ => by omega, fun _ => ⟨fun z => e (by rw [e2]; exact (hE.1.2.1 k j0 h0 (by omega) hj0.1 hj0.2 z).symm), (hb k h0 (by omega)).mpr (by omega)⟩⟩
            · rw [swp_n e e2, hb j a b]
              exact ⟨fun z => by omega, fun z => ⟨fun z2 => e2 (hE.1.2.1 j j0 a b hj0.1 hj0.2 z2), by omega⟩⟩
  refine L (F 1).toNat LF 0 0 c _ _ (by omega) (by omega) (by rw [LF_g]; omega) Qs.rf (by omega) Elm_0 (fun r q a b a2 b2 => ?_) (fun j a b => by omega) (fun j a b => ?_)
  · obtain ⟨hd, ht⟩ := I_tt (C := fun i r => if i = r then 1 else 0) (fun i r _ _ => rfl)
    rw [ht _ r (by omega), hd, nu_1.1, nu_1.2]
    exact h1 r q a b a2 b2
  · have h : ∀ r : Fin 4, bt 0 r.val = 0 := by decide +kernel
    have h9 := h ⟨j.toNat, by omega⟩
    rw [show (((⟨j.toNat, by omega⟩ : Fin 4).val : Nat) : Int) = j by show ((j.toNat : Nat) : Int) = j; omega] at h9
    exact ⟨fun _ => by omega, fun _ => h9⟩
theorem lays224 {th : Nat} {F : Int → Int} {C : Mx} {s : Int → Int} {c : W0} (g : GdP F) (hF : c (th + 1) = F) (hP : Pm (F 1) s) (hR : Rws th F C c) (hs : ∀ j, 0 ≤ j → j < F 1 → c (th + 9) j = s j) (κ : W0 → Option (Int × W0)) :
    ∃ c1, f_X9_lays_224 th κ LF 0 c = κ c1 ∧ Qs th (fun q => q = th + 6 ∨ q = th + 7) c c1 ∧ ∀ r q, 0 ≤ r → r < F 1 → 0 ≤ q → q < 9 → c1 (th + 6) (9 * r + q) = nu (tt C (Aq F q) (s r)) (det4 C) ∧ c1 (th + 7) (9 * r + q) = de (tt C (Aq F q) (s r)) (det4 C) := by
  have g0 := g.1; have g1 := g.2.1
  have L : ∀ (k fuel : Nat) (l : Int) (c1 : W0), l + k = 9 * F 1 → 0 ≤ l → k + 1 ≤ fuel → Qs th (fun q => q = th + 6 ∨ q = th + 7) c c1 → (∀ r q, 0 ≤ r → 0 ≤ q → q < 9 → 9 * r + q < l → c1 (th + 6) (9 * r + q) = nu (tt C (Aq F q) (s r)) (det4 C) ∧ c1 (th + 7) (9 * r + q) = de (tt C (Aq F q) (s r)) (det4 C)) →
      ∃ c1', f_X9_lays_224 th κ fuel l c1 = κ c1' ∧ Qs th (fun q => q = th + 6 ∨ q = th + 7) c c1' ∧ ∀ r q, 0 ≤ r → r < F 1 → 0 ≤ q → q < 9 → c1' (th + 6) (9 * r + q) = nu (tt C (Aq F q) (s r)) (det4 C) ∧ c1' (th + 7) (9 * r + q) = de (tt C (Aq F q) (s r)) (det4 C) := by
    intro k
    induction k with
    | zero =>
      intro fuel l c1 hl h0 hf hQ hd
      obtain ⟨f, rfl⟩ : ∃ f, fuel = f + 1 := ⟨fuel - 1, by omega⟩
      rw [f_X9_lays_224_s]
      unfold b_X9_lays_224
      have eS : c1 (th + 1) = F := (hQ.1 _ (by omega) (by omega)).trans hF
      rw [eS, gd_t (by omega), bq_p (by omega)]
      exact ⟨c1, rfl, hQ, fun r q a b a2 b2 => hd r q a a2 b2 (by omega)⟩
    | succ k ih =>
      intro fuel l c1 hl h0 hf hQ hd
      obtain ⟨f, rfl⟩ : ∃ f, fuel = f + 1 := ⟨fuel - 1, by omega⟩
      rw [f_X9_lays_224_s]
      unfold b_X9_lays_224
      have eS : c1 (th + 1) = F := (hQ.1 _ (by omega) (by omega)).trans hF
      have e9 : c1 (th + 9) (l / 9) = s (l / 9) := by rw [hQ.1 _ (by omega) (by omega)]; exact hs _ (by omega) (by omega)
      have hs9 := hP.1 (l / 9) (by omega) (by omega)
      have hs8 := hP.2.2.2 (l / 9) (by omega) (by omega)
      have e10 : c1 (th + 10) = c (th + 10) := hQ.1 _ (by omega) (by omega)
      have e11 : c1 (th + 11) = c (th + 11) := hQ.1 _ (by omega) (by omega)
      have eR := hR (s (l / 9)) (l % 9) hs9.1 hs8 (by omega) (by omega)
      simp only [sto]
      rw [eS, td9 h0, tm9 h0, upc_n (show th + 9 ≠ th + 6 by omega), upc_n (show th + 11 ≠ th + 6 by omega), upc_n (show th + 7 ≠ th + 6 by omega), e9, e10, e11, eR.1, eR.2, gd_t (by omega), bq_n (by omega), gd_t (by omega), gd_t (by omega), gd_t (by omega), gd_t (by omega), gd_t (by omega), gd_t (by omega), gd_t (by omega), gd_t (by omega), gd_t (by omega), gd_t (by omega)]
      refine ih f (l + 1) _ (by omega) (by omega) (by omega) ((hQ.tr (Qs.up (by omega) (Or.inl rfl))).tr (Qs.up (by omega) (Or.inr rfl))) (fun r q a a2 b2 h => ?_)
      rw [upc_n (show th + 6 ≠ th + 7 by omega), upc_s, upc_s]
      by_cases e : 9 * r + q = l
      · rw [e, updZ_s, updZ_s, show l / 9 = r by omega, show l % 9 = q by omega]
        exact ⟨rfl, rfl⟩
      · rw [updZ_n e, updZ_n e]
        exact hd r q a a2 b2 (by omega)
  exact L (9 * F 1).toNat LF 0 c (by omega) (by omega) (by rw [LF_g]; omega) Qs.rf (fun r q a b _ h => by omega)
theorem lays_s {th : Nat} {c : W0} (g : GdP (c (th + 1))) (hN : ∀ r, 0 ≤ r → r < c (th + 1) 1 → 0 ≤ c (th + 8) r ∧ c (th + 8) r < c (th + 1) 0 + c (th + 1) 1) :
    ∃ b c', f_X9_lays th c = some (b, c') ∧ Qs th (P6 th) c c' ∧ ((b = 1 ∧ ∃ C s, Elm (c (th + 1) 1) (c (th + 1) 1) (fun j => aF (c (th + 1)) (c (th + 8) j)) C s ∧ ∀ r q, 0 ≤ r → r < c (th + 1) 1 → 0 ≤ q → q < 9 → c' (th + 6) (9 * r + q) = nu (tt C (Aq (c (th + 1)) q) (s r)) (det4 C) ∧ c' (th + 7) (9 * r + q) = de (tt C (Aq (c (th + 1)) q) (s r)) (det4 C)) ∨ (b = 0 ∧ Dep (c (th + 1) 1) (fun j => aF (c (th + 1)) (c (th + 8) j)))) := by
  unfold f_X9_lays
  obtain ⟨c1, e1, hQ1, h1⟩ := lays2 (β := Int) g (fun c1 => f_X9_lays_71 th (fun c2 => f_X9_lays_224 th (fun c3 => some (1, c3)) LF 0 c2) LF 0 0 c1)
  rw [e1]
  have eS : c1 (th + 1) = c (th + 1) := hQ1.1 _ (by omega) (by unfold P1; omega)
  have e8 : c1 (th + 8) = c (th + 8) := hQ1.1 _ (by omega) (by unfold P1; omega)
  obtain ⟨c2, hQ2, h2⟩ := lays71 g eS (by rw [e8]; exact hN) h1 (fun c2 => f_X9_lays_224 th (fun c3 => some (1, c3)) LF 0 c2)
  rw [e8] at h2
  have hQ : Qs th (P6 th) c c2 := (hQ1.mo (fun q h => Or.inr (Or.inr (Or.inr h)))).tr (hQ2.mo (fun q h => Or.inr (Or.inr h)))
  rcases h2 with ⟨e2, C, s, hE, hR, hs⟩ | ⟨e2, hd⟩
  · rw [e2]
    obtain ⟨c3, e3, hQ3, h3⟩ := lays224 (C := C) g ((hQ.1 _ (by omega) (by unfold P6; omega))) hE.1 hR hs (fun c3 => some (1, c3))
    rw [e3]
    exact ⟨1, c3, rfl, hQ.tr (hQ3.mo (fun q h => h.elim Or.inl (fun z => Or.inr (Or.inl z)))), Or.inl ⟨rfl, C, s, hE, h3⟩⟩
  · rw [e2]
    exact ⟨0, c2, rfl, hQ, Or.inr ⟨rfl, hd⟩⟩
end LY
