section EQ
/-! the class's equations: elimination without fractions -/
def AqE (m : Int) (cs : Int → Int → Int) (rhs : Int → Int) (q : Int) : Int → Int := if q < m then cs q else rhs
def EqH (m : Int) (cs : Int → Int → Int) (rhs : Int → Int) : Prop := (0 ≤ m ∧ m ≤ 4) ∧ (∀ j i, 0 ≤ j → j < m → m ≤ i → cs j i = 0) ∧ (∀ j i, 0 ≤ j → j < m → 0 ≤ i → i < 4 → B9 (cs j i)) ∧ ∀ i, 0 ≤ i ∧ i < 4 → -99 ≤ rhs i ∧ rhs i ≤ 99
def EqC (e : Nat) (m : Int) (cs : Int → Int → Int) (rhs : Int → Int) (C : Mx) (s : Int → Int) (c : W0) : Prop := c e 0 = m ∧ c e 1 = det4 C ∧ ∀ r q, 0 ≤ r → r < m → 0 ≤ q → q ≤ m → c (e + 2) (r * 5 + q) = tt C (AqE m cs rhs q) (s r)
section
variable {e : Nat} {m k : Int} {cs : Int → Int → Int} {rhs : Int → Int} {C : Mx} {s : Int → Int} {c : W0}
theorem Aq_lt {q : Int} (h : q < m) : AqE m cs rhs q = cs q := if_pos h
theorem Aq_m : AqE m cs rhs m = rhs := if_neg (by omega)
theorem eq_b (H : EqH m cs rhs) (h : Elm m k cs C s) (hk : k ≤ m) {r q : Int} (hr : 0 ≤ r ∧ r < m) (hq : 0 ≤ q ∧ q ≤ m) : -1732104 ≤ tt C (AqE m cs rhs q) (s r) ∧ tt C (AqE m cs rhs q) (s r) ≤ 1732104 := by
  have hm := H.1
  have hs := h.1.1 r hr.1 (by omega)
  have ha : ∀ i, 0 ≤ i ∧ i < 4 → -99 ≤ AqE m cs rhs q i ∧ AqE m cs rhs q i ≤ 99 := by
    intro i hi
    unfold AqE
    by_cases h2 : q < m
    · rw [if_pos h2]
      have := H.2.2.1 q i hq.1 h2 hi.1 hi.2
      omega
    · rw [if_neg h2]
      exact H.2.2.2 i hi
  have := tt_b (C := C) (r := s r) hs (Elm_9 h H.2.2.1 hk) ha
  omega
theorem eq_b1 (H : EqH m cs rhs) (h : Elm m k cs C s) (hk : k ≤ m) {r q : Int} (hr : 0 ≤ r ∧ r < m) (hq : 0 ≤ q ∧ q < m) : -157464 ≤ tt C (cs q) (s r) ∧ tt C (cs q) (s r) ≤ 157464 := by
  have hm := H.1
  have hs := h.1.1 r hr.1 (by omega)
  have := tt_b (C := C) (a := cs q) (r := s r) hs (Elm_9 h H.2.2.1 hk) (fun i hi => H.2.2.1 q i hq.1 hq.2 hi.1 hi.2)
  omega
theorem rowW8 (hm : 0 ≤ m ∧ m ≤ 4) (hk : 0 ≤ k ∧ k < m) (h0 : c e 0 = m) (hR : ∀ r, 0 ≤ r → r < m → R64 (c (e + 2) (r * 5 + k))) : ∃ v, f_X0_rowWith e k c = some v ∧ ((v = -1 ∧ ∀ j, k ≤ j → j < m → c (e + 2) (j * 5 + k) = 0) ∨ (k ≤ v ∧ v < m ∧ c (e + 2) (v * 5 + k) ≠ 0)) := by
  have L : ∀ (n fuel : Nat) (l : Int), l + n = m → k ≤ l → n + 1 ≤ fuel → (∀ j, k ≤ j → j < l → c (e + 2) (j * 5 + k) = 0) → ∃ v, f_X0_rowWith_2 e k c (some (-1)) fuel l = some v ∧ ((v = -1 ∧ ∀ j, k ≤ j → j < m → c (e + 2) (j * 5 + k) = 0) ∨ (k ≤ v ∧ v < m ∧ c (e + 2) (v * 5 + k) ≠ 0)) := by
    intro n
    induction n with
    | zero =>
      intro fuel l hl hk2 hf hI
      obtain ⟨f, rfl⟩ : ∃ f, fuel = f + 1 := ⟨fuel - 1, by omega⟩
      rw [f_X0_rowWith_2_s]
      unfold b_X0_rowWith_2
      rw [h0, gd_t (by omega), bq_p (by omega)]
      exact ⟨-1, rfl, Or.inl ⟨rfl, fun j a b => hI j a (by omega)⟩⟩
    | succ n ih =>
      intro fuel l hl hk2 hf hI
      obtain ⟨f, rfl⟩ : ∃ f, fuel = f + 1 := ⟨fuel - 1, by omega⟩
      rw [f_X0_rowWith_2_s]
      unfold b_X0_rowWith_2
      rw [h0, gd_t (by omega), bq_n (by omega), gd_t (by omega), gd_t (hR l (by omega) (by omega))]
      by_cases z : c (e + 2) (l * 5 + k) = 0
      · rw [bq_p z]
        refine ih f (l + 1) (by omega) (by omega) (by omega) (fun j a b => ?_)
        by_cases y : j = l
        · rw [y]; exact z
        · exact hI j a (by omega)
      · rw [bq_n z]
        exact ⟨l, rfl, Or.inr ⟨hk2, by omega, z⟩⟩
  unfold f_X0_rowWith
  exact L (m - k).toNat LF k (by omega) (by omega) (by rw [LF_g]; omega) (fun j a b => by omega)
def sw2 (v k r : Int) : Int := if r = v then k else if r = k then v else r
theorem swap8 {v : Int} (hm : 0 ≤ m ∧ m ≤ 4) (hk : 0 ≤ k ∧ k < m) (hv : 0 ≤ v ∧ v < m) (h0 : c e 0 = m) : ∃ c', f_X0_swap e v k c = some (0, c') ∧ Fr (fun q => q = e + 2) c c' ∧ ∀ r q, 0 ≤ r → r < m → 0 ≤ q → q ≤ m → c' (e + 2) (r * 5 + q) = c (e + 2) (sw2 v k r * 5 + q) := by
  have L : ∀ (n fuel : Nat) (l : Int) (c1 : W0), l + n = m + 1 → 0 ≤ l → n + 1 ≤ fuel → Fr (fun q => q = e + 2) c c1 → (∀ r q, 0 ≤ r → r < m → 0 ≤ q → q ≤ m → c1 (e + 2) (r * 5 + q) = c (e + 2) ((if q < l then sw2 v k r else r) * 5 + q)) → ∃ c', f_X0_swap_2 e v k (fun c1 => some (0, c1)) fuel l c1 = some (0, c') ∧ Fr (fun q => q = e + 2) c c' ∧ ∀ r q, 0 ≤ r → r < m → 0 ≤ q → q ≤ m → c' (e + 2) (r * 5 + q) = c (e + 2) (sw2 v k r * 5 + q) := by
    intro n
    induction n with
    | zero =>
      intro fuel l c1 hl hl0 hf hF hI
      obtain ⟨f, rfl⟩ : ∃ f, fuel = f + 1 := ⟨fuel - 1, by omega⟩
      have h1 : c1 e 0 = m := by rw [hF e (by omega)]; exact h0
      rw [f_X0_swap_2_s]
      unfold b_X0_swap_2
      rw [h1, gd_t (by omega), bq_p (by omega)]
      refine ⟨c1, rfl, hF, fun r q a b a2 b2 => ?_⟩
      rw [hI r q a b a2 b2, if_pos (by omega)]
    | succ n ih =>
      intro fuel l c1 hl hl0 hf hF hI
      obtain ⟨f, rfl⟩ : ∃ f, fuel = f + 1 := ⟨fuel - 1, by omega⟩
      have h1 : c1 e 0 = m := by rw [hF e (by omega)]; exact h0
      have old : ∀ r, 0 ≤ r → r < m → c1 (e + 2) (r * 5 + l) = c (e + 2) (r * 5 + l) := fun r a b => by
        rw [hI r l a b hl0 (by omega), if_neg (by omega)]
      rw [f_X0_swap_2_s]
      unfold b_X0_swap_2
      simp only [sto]
      rw [h1, gd_t (by omega), bq_n (by omega), gd_t (by omega), gd_t (by omega), gd_t (by omega), gd_t (by omega), old v hv.1 hv.2, old k hk.1 hk.2]
      refine ih f (l + 1) _ (by omega) (by omega) (by omega) ((hF.tr (Fr.up rfl)).tr (Fr.up rfl)) (fun r q a b a2 b2 => ?_)
      rw [upc_s, upc_s]
      have hsw : sw2 v k r = v ∧ r = k ∨ sw2 v k r = k ∧ r = v ∨ sw2 v k r = r ∧ r ≠ k ∧ r ≠ v := by
        unfold sw2
        by_cases x1 : r = v
        · rw [if_pos x1]; exact Or.inr (Or.inl ⟨rfl, x1⟩)
        · rw [if_neg x1]
          by_cases x2 : r = k
          · rw [if_pos x2]; exact Or.inl ⟨rfl, x2⟩
          · rw [if_neg x2]; exact Or.inr (Or.inr ⟨rfl, x2, x1⟩)
      by_cases hq : q = l
      · rw [if_pos (by omega)]
        subst hq
        rcases hsw with ⟨x1, x2⟩ | ⟨x1, x2⟩ | ⟨x1, x2, x3⟩
        · rw [x1, x2, updZ_s]
        · rw [x1, x2]
          by_cases y : v = k
          · rw [y, updZ_s]
          · rw [updZ_n (by omega), updZ_s]
        · rw [x1, updZ_n (by omega), updZ_n (by omega)]
          exact old r a b
      · rw [updZ_n (by omega), updZ_n (by omega), hI r q a b a2 b2]
        by_cases y : q < l
        · rw [if_pos y, if_pos (by omega)]
        · rw [if_neg y, if_neg (by omega)]
  unfold f_X0_swap
  refine L (m + 1).toNat LF 0 c (by omega) (by omega) (by rw [LF_g]; omega) Fr.rf (fun r q a b a2 b2 => ?_)
  rw [if_neg (by omega)]
/-- the rows besides k are cleared -/
theorem el35 (H : EqH m cs rhs) (h : Elm m k cs C s) (hk : 0 ≤ k ∧ k < m) (hC : EqC e m cs rhs C s c) (ht : tt C (cs k) (s k) ≠ 0) (κ : W0 → Option (Int × W0)) : ∃ c', f_X0_eliminate_35 e k κ LF 0 c = κ c' ∧ Fr (fun q => q = e + 2) c c' ∧ ∀ r q, 0 ≤ r → r < m → 0 ≤ q → q ≤ m → c' (e + 2) (r * 5 + q) = tt (col C (s k) (cs k)) (AqE m cs rhs q) (s r) := by
  have hm := H.1
  have hsk := h.1.1 k hk.1 (by omega)
  have hD9 := det_b (Elm_9 h H.2.2.1 (by omega))
  have inj : ∀ r, 0 ≤ r → r < m → r ≠ k → s r ≠ s k := fun r a b x y => x (h.1.2.1 r k a (by omega) hk.1 (by omega) y)
  have L : ∀ (n fuel : Nat) (l : Int) (c1 : W0), l + n = m → 0 ≤ l → n + 1 ≤ fuel → Fr (fun q => q = e + 2) c c1 → (∀ r q, 0 ≤ r → r < m → 0 ≤ q → q ≤ m → c1 (e + 2) (r * 5 + q) = if r < l ∧ r ≠ k then tt (col C (s k) (cs k)) (AqE m cs rhs q) (s r) else tt C (AqE m cs rhs q) (s r)) → ∃ c', f_X0_eliminate_35 e k κ fuel l c1 = κ c' ∧ Fr (fun q => q = e + 2) c c' ∧ ∀ r q, 0 ≤ r → r < m → 0 ≤ q → q ≤ m → c' (e + 2) (r * 5 + q) = tt (col C (s k) (cs k)) (AqE m cs rhs q) (s r) := by
    intro n
    induction n with
    | zero =>
      intro fuel l c1 hl hl0 hf hF hI
      obtain ⟨f, rfl⟩ : ∃ f, fuel = f + 1 := ⟨fuel - 1, by omega⟩
      have h1 : c1 e 0 = m := by rw [hF e (by omega)]; exact hC.1
      rw [f_X0_eliminate_35_s]
      unfold b_X0_eliminate_35
      rw [h1, gd_t (by omega), bq_p (by omega)]
      refine ⟨c1, rfl, hF, fun r q a b a2 b2 => ?_⟩
      rw [hI r q a b a2 b2]
      by_cases x : r = k
      · rw [if_neg (by omega), x, tt_col hsk]
      · rw [if_pos ⟨by omega, x⟩]
    | succ n ih =>
      intro fuel l c1 hl hl0 hf hF hI
      obtain ⟨f, rfl⟩ : ∃ f, fuel = f + 1 := ⟨fuel - 1, by omega⟩
      have h1 : c1 e 0 = m := by rw [hF e (by omega)]; exact hC.1
      have h2 : c1 e 1 = det4 C := by rw [hF e (by omega)]; exact hC.2.1
      rw [f_X0_eliminate_35_s]
      unfold b_X0_eliminate_35
      rw [h1, h2, gd_t (by omega), bq_n (by omega), gd_t (by omega)]
      by_cases x : l = k
      · rw [bq_p x]
        refine ih f (l + 1) c1 (by omega) (by omega) (by omega) hF (fun r q a b a2 b2 => ?_)
        rw [hI r q a b a2 b2]
        by_cases y : r < l ∧ r ≠ k
        · rw [if_pos y, if_pos (by omega)]
        · rw [if_neg y, if_neg (by omega)]
      · have old : ∀ r q, 0 ≤ r → r < m → (r = l ∨ r = k) → 0 ≤ q → q ≤ m → c1 (e + 2) (r * 5 + q) = tt C (AqE m cs rhs q) (s r) := fun r q a b y a2 b2 => by
          rw [hI r q a b a2 b2, if_neg (by omega)]
        have hsl := h.1.1 l hl0 (by omega)
        have hval : ∀ q, 0 ≤ q → q ≤ m → c1 (e + 2) (l * 5 + q) * c1 (e + 2) (k * 5 + k) - c1 (e + 2) (l * 5 + k) * c1 (e + 2) (k * 5 + q) = det4 C * tt (col C (s k) (cs k)) (AqE m cs rhs q) (s l) := fun q a b => by
          rw [old l q hl0 (by omega) (Or.inl rfl) a b, old k k hk.1 hk.2 (Or.inr rfl) hk.1 (by omega), old l k hl0 (by omega) (Or.inl rfl) hk.1 (by omega), old k q hk.1 hk.2 (Or.inr rfl) a b, Aq_lt hk.2, tt_piv hsk hsl (inj l hl0 (by omega) x), det_col hsk, Int.mul_comm (tt C (cs k) (s k))]
        rw [bq_n x, gd_t ⟨by omega, by omega, x, by omega, by omega, by omega, h.2.1, fun q a b => by
          rw [old l q hl0 (by omega) (Or.inl rfl) a b, old k k hk.1 hk.2 (Or.inr rfl) hk.1 (by omega), old l k hl0 (by omega) (Or.inl rfl) hk.1 (by omega), old k q hk.1 hk.2 (Or.inr rfl) a b, Aq_lt hk.2]
          have b1 := eq_b H h (by omega) (r := l) (q := q) ⟨hl0, by omega⟩ ⟨a, b⟩
          have b2 := eq_b1 H h (by omega) (r := k) (q := k) hk hk
          have b3 := eq_b1 H h (by omega) (r := l) (q := k) ⟨hl0, by omega⟩ hk
          have b4 := eq_b H h (by omega) (r := k) (q := q) hk ⟨a, b⟩
          have m1 := mbd b1 b2
          have m2 := mbd b3 b4
          omega⟩]
        simp only [stw]
        refine ih f (l + 1) _ (by omega) (by omega) (by omega) (hF.tr (Fr.up rfl)) (fun r q a b a2 b2 => ?_)
        rw [upc_s]
        by_cases y : r = l
        · subst y
          unfold clr
          rw [if_pos (by omega), if_pos (by omega), show r * 5 + q - r * 5 = q by omega]
          unfold clrV
          rw [hval q a2 b2, Int.mul_tdiv_cancel_left _ h.2.1]
        · rw [clr_n (by omega), hI r q a b a2 b2]
          by_cases y2 : r < l ∧ r ≠ k
          · rw [if_pos y2, if_pos (by omega)]
          · rw [if_neg y2, if_neg (by omega)]
  exact L m.toNat LF 0 c (by omega) (by omega) (by rw [LF_g]; omega) Fr.rf (fun r q a b a2 b2 => by rw [if_neg (by omega)]; exact hC.2.2 r q a b a2 b2)
def ES (e q : Nat) : Prop := q = e ∨ q = e + 2
theorem elim_l (H : EqH m cs rhs) : ∀ (n fuel : Nat) (k : Int) (C : Mx) (s : Int → Int) (c : W0), k + n = m → 0 ≤ k → n + 1 ≤ fuel → Elm m k cs C s → EqC e m cs rhs C s c → ∃ b c', f_X0_eliminate_7 e (fun c2 => some (1, c2)) fuel k c = some (b, c') ∧ Fr (ES e) c c' ∧ c' e 0 = m ∧ ((b = 1 ∧ ∃ C s, Elm m m cs C s ∧ EqC e m cs rhs C s c') ∨ (b = 0 ∧ Dep m cs)) := by
  have hm := H.1
  intro n
  induction n with
  | zero =>
    intro fuel k C s c hk h0 hf hE hC
    obtain ⟨f, rfl⟩ : ∃ f, fuel = f + 1 := ⟨fuel - 1, by omega⟩
    obtain rfl : k = m := by omega
    rw [f_X0_eliminate_7_s]
    unfold b_X0_eliminate_7
    rw [hC.1, gd_t (by omega), bq_p (by omega)]
    exact ⟨1, c, rfl, Fr.rf, hC.1, Or.inl ⟨rfl, C, s, hE, hC⟩⟩
  | succ n ih =>
    intro fuel k C s c hk h0 hf hE hC
    obtain ⟨f, rfl⟩ : ∃ f, fuel = f + 1 := ⟨fuel - 1, by omega⟩
    have hkm : 0 ≤ k ∧ k < m := ⟨h0, by omega⟩
    obtain ⟨v, ev, hv⟩ := rowW8 (e := e) (c := c) hm hkm hC.1 (fun r a b => by
      rw [hC.2.2 r k a b h0 (by omega)]
      have := eq_b H hE (by omega) (r := r) (q := k) ⟨a, b⟩ ⟨h0, by omega⟩
      omega)
    rw [f_X0_eliminate_7_s]
    unfold b_X0_eliminate_7
    rw [hC.1, gd_t (by omega), bq_n (by omega), ev, cv_s]
    rcases hv with ⟨v1, v2⟩ | ⟨v1, v2, v3⟩
    · rw [gd_t (by omega), bq_n (by omega)]
      refine ⟨0, c, rfl, Fr.rf, hC.1, Or.inr ⟨rfl, Elm_fail hE hkm hm.2 H.2.1 (fun j a b => ?_)⟩⟩
      have h1 := v2 j a b
      rw [hC.2.2 j k (by omega) b h0 (by omega), Aq_lt hkm.2] at h1
      exact h1
    · rw [hC.2.2 v k (by omega) v2 h0 (by omega), Aq_lt hkm.2] at v3
      obtain ⟨c1, e1, hF1, h1⟩ := swap8 (e := e) (c := c) (v := v) hm hkm ⟨by omega, v2⟩ hC.1
      have hE2 := Elm_swp hE h0 (j0 := v) ⟨v1, v2⟩ hm.2
      have hsw : ∀ r, s (sw2 v k r) = swp s k v r := fun r => by
        unfold sw2 swp
        by_cases x1 : r = v
        · rw [if_pos x1]
          by_cases x2 : r = k
          · rw [if_pos x2, ← x1, x2]
          · rw [if_neg x2, if_pos x1]
        · rw [if_neg x1]
          by_cases x2 : r = k
          · rw [if_pos x2, if_pos x2]
          · rw [if_neg x2, if_neg x2, if_neg x1]
      have hsr : ∀ r, 0 ≤ r → r < m → 0 ≤ sw2 v k r ∧ sw2 v k r < m := fun r a b => by
        unfold sw2
        (repeat' split) <;> omega
      have hC1 : EqC e m cs rhs C (swp s k v) c1 := by
        refine ⟨by rw [hF1 e (by omega)]; exact hC.1, by rw [hF1 e (by omega)]; exact hC.2.1, fun r q a b a2 b2 => ?_⟩
        have hr := hsr r a b
        rw [h1 r q a b a2 b2, hC.2.2 _ q hr.1 hr.2 a2 b2, hsw]
      have ht : tt C (cs k) (swp s k v k) ≠ 0 := by rw [swp_a]; exact v3
      have hs2 := hE2.1.1 k h0 (by omega)
      rw [gd_t (by omega), bq_p (by omega), e1, cl_s]
      obtain ⟨c2, e2, hF2, h2⟩ := el35 (e := e) H hE2 hkm hC1 ht (fun c4 => gd ((0 ≤ k ∧ k < 4) ∧ (0 ≤ k ∧ k < 5)) <| sto c4 e 1 (c4 (e + 2) (k * 5 + k)) fun c5 => f_X0_eliminate_7 e (fun c2 => some (1, c2)) f (k + 1) c5)
      rw [e2]
      try dsimp only
      rw [gd_t (by omega)]
      simp only [sto]
      rw [h2 k k h0 hkm.2 h0 (by omega), Aq_lt hkm.2]
      have ee : c2 e = c e := by rw [hF2 e (by omega), hF1 e (by omega)]
      obtain ⟨b, c3, e3, hF3, h30, h3⟩ := ih f (k + 1) (col C (swp s k v k) (cs k)) (swp s k v) (upc c2 e (updZ (c2 e) 1 (tt (col C (swp s k v k) (cs k)) (cs k) (swp s k v k)))) (by omega) (by omega) (by omega) (Elm_piv hE2 hkm hm.2 ht) ⟨by rw [upc_s, updZ_n (by decide), ee]; exact hC.1, by rw [upc_s, updZ_s, tt_col hs2, det_col hs2], fun r q a b a2 b2 => by rw [upc_n (by omega)]; exact h2 r q a b a2 b2⟩
      exact ⟨b, c3, e3, (((Fr.mo (S' := ES e) hF1 (fun q h => Or.inr h)).tr (hF2.mo (fun q h => Or.inr h))).tr (Fr.up (Or.inl rfl))).tr hF3, h30, h3⟩
theorem elim8 (H : EqH m cs rhs) (h0 : c e 0 = m) (hI : ∀ r q, 0 ≤ r → r < m → 0 ≤ q → q ≤ m → c (e + 2) (r * 5 + q) = AqE m cs rhs q r) : ∃ b c', f_X0_eliminate e c = some (b, c') ∧ Fr (ES e) c c' ∧ c' e 0 = m ∧ ((b = 1 ∧ ∃ C s, Elm m m cs C s ∧ EqC e m cs rhs C s c') ∨ (b = 0 ∧ Dep m cs)) := by
  have hm := H.1
  have hI1 := I_tt (C := fun i r => if i = r then 1 else 0) (fun i r _ _ => rfl)
  unfold f_X0_eliminate
  simp only [sto]
  obtain ⟨b, c1, e1, hF, h1, h2⟩ := elim_l (e := e) H m.toNat LF 0 (fun i r => if i = r then 1 else 0) (fun j => j) (upc c e (updZ (c e) 1 1)) (by omega) (by omega) (by rw [LF_g]; omega) Elm_0 ⟨by rw [upc_s, updZ_n (by decide)]; exact h0, by rw [upc_s, updZ_s, hI1.1], fun r q a b a2 b2 => by rw [upc_n (by omega), hI r q a b a2 b2, hI1.2 _ _ ⟨a, by omega⟩]⟩
  exact ⟨b, c1, e1, (Fr.up (Or.inl rfl)).tr hF, h1, h2⟩
end
/-! the duals by equations -/
def dcs (F : Int → Int) (j i : Int) : Int := if 0 ≤ i ∧ i < F 1 then aF F (F (27 + i)) j else 0
def dr (F : Int → Int) (i : Int) : Int := if 0 ≤ i ∧ i < F 1 then cF F (F (27 + i)) else 0
theorem dEq {F : Int → Int} (g : GdP F) (hN : GdN F) : EqH (F 1) (dcs F) (dr F) := by
  have g1 := g.2.1
  refine ⟨g1, fun j i a b h => if_neg (by omega), fun j i a b a2 b2 => ?_, fun i hi => ?_⟩
  · unfold dcs
    by_cases h : 0 ≤ i ∧ i < F 1
    · rw [if_pos h]; exact aF_9 g (hN i h.1 h.2)
    · rw [if_neg h]; omega
  · unfold dr
    by_cases h : 0 ≤ i ∧ i < F 1
    · rw [if_pos h]
      have := cF_9 g (hN i h.1 h.2).1
      omega
    · rw [if_neg h]; omega
/-- the transposed system's answer -/
theorem d_sol {F : Int → Int} (g : GdP F) {i : Int} (hi : 0 ≤ i ∧ i < F 1) : s4 (fun j => bF F j i * (if j < F 1 then -rF F (F 0 + j) else 0)) = dF F * cF F (F (27 + i)) := by
  have g0 := g.1; have g1 := g.2.1
  have hw : ∀ j, 0 ≤ j ∧ j < 4 → j < F 1 → -rF F (F 0 + j) = s4 (fun r => (if r < F 1 then cF F (F (27 + r)) else 0) * adj (bF F) r j) := by
    intro j hj hj1
    have e0 : cF F (F 0 + j) = 0 := if_neg (by omega)
    have ea : aF F (F 0 + j) = fun x => if j = x then (if x < F 1 then 1 else 0) else 0 := by
      funext x
      unfold aF
      by_cases hx : 0 ≤ x ∧ x < F 1
      · rw [if_pos hx, if_neg (by omega), if_neg (by omega), show F 0 + j - F 0 = j by omega]
        by_cases y : j = x
        · rw [if_pos y, if_pos y, if_pos hx.2]
        · rw [if_neg y, if_neg y]
      · rw [if_neg hx]
        by_cases y : j = x
        · rw [if_pos y, if_neg (by omega)]
        · rw [if_neg y]
    have et : ∀ r, tF F r (F 0 + j) = adj (bF F) r j := by
      intro r
      unfold tF tt
      rw [ea]
      have e1 : s4 (fun x => adj (bF F) r x * (if j = x then (if x < F 1 then 1 else 0) else 0)) = s4 (fun x => if j = x then adj (bF F) r x * (if x < F 1 then 1 else 0) else 0) := s4_c fun x _ => by
        by_cases y : j = x
        · rw [if_pos y, if_pos y]
        · rw [if_neg y, if_neg y, Int.mul_zero]
      rw [e1, s4_1 (f := fun x => adj (bF F) r x * (if x < F 1 then 1 else 0)) hj, if_pos hj1, Int.mul_one]
    unfold rF vF
    rw [e0, Int.mul_zero]
    have e2 : s4 (fun r => if r < F 1 then cF F (F (27 + r)) * tF F r (F 0 + j) else 0) = s4 (fun r => (if r < F 1 then cF F (F (27 + r)) else 0) * adj (bF F) r j) := s4_c fun r _ => by
      rw [et r]
      by_cases y : r < F 1
      · rw [if_pos y, if_pos y]
      · rw [if_neg y, if_neg y, Int.zero_mul]
    rw [e2]
    omega
  have hb0 : ∀ j, 0 ≤ j ∧ j < 4 → ¬ j < F 1 → bF F j i = 0 := by
    intro j hj hj1
    unfold bF aF
    rw [if_pos hi, if_neg (by omega)]
  have e3 : s4 (fun j => bF F j i * (if j < F 1 then -rF F (F 0 + j) else 0)) = s4 (fun j => s4 (fun r => (if r < F 1 then cF F (F (27 + r)) else 0) * (adj (bF F) r j * bF F j i))) := s4_c fun j hj => by
    by_cases y : j < F 1
    · rw [if_pos y, hw j hj y, Int.mul_comm, ← s4_m2]
      refine s4_c fun r _ => ?_
      rw [Int.mul_assoc]
    · rw [if_neg y, hb0 j hj y, Int.zero_mul]
      simp only [s4, Int.mul_zero, Int.add_zero]
  have e4 : s4 (fun j => s4 (fun r => (if r < F 1 then cF F (F (27 + r)) else 0) * (adj (bF F) r j * bF F j i))) = s4 (fun r => if r = i then cF F (F (27 + r)) * dF F else 0) := by
    rw [s4_f]
    refine s4_c fun r hr => ?_
    rw [s4_m, adjC hr ⟨hi.1, by omega⟩]
    by_cases y : r = i
    · rw [if_pos y, if_pos y, if_pos (by omega)]
      rfl
    · rw [if_neg y, if_neg y, Int.mul_zero]
  rw [e3, e4, s4_1' (f := fun r => cF F (F (27 + r)) * dF F) ⟨hi.1, by omega⟩, Int.mul_comm]
theorem d_nodep {F : Int → Int} (g : GdP F) (hd : dF F ≠ 0) : ¬ Dep (F 1) (dcs F) := by
  have g1 := g.2.1
  intro ⟨v, ⟨k, hk0, hk1, hv⟩, h⟩
  have h2 : ∀ i, 0 ≤ i ∧ i < 4 → s4 (fun j => (if j < F 1 then v j else 0) * bF F j i) = 0 := by
    intro i hi
    by_cases hi1 : i < F 1
    · refine Eq.trans (s4_c fun j hj => ?_) (h i hi)
      by_cases y : j < F 1
      · rw [if_pos y, if_pos y, Int.mul_comm]
        unfold dcs bF
        rw [if_pos (show 0 ≤ i ∧ i < F 1 by omega), if_pos (show 0 ≤ i ∧ i < F 1 by omega)]
      · rw [if_neg y, if_neg y, Int.zero_mul, Int.zero_mul]
    · have e1 : s4 (fun j => (if j < F 1 then v j else 0) * bF F j i) = s4 (fun j => if j = i then (if j < F 1 then v j else 0) else 0) := s4_c fun j hj => by
        unfold bF
        rw [if_neg (show ¬ (0 ≤ i ∧ i < F 1) by omega)]
        by_cases y : j = i
        · rw [if_pos y, if_pos y, Int.mul_one]
        · rw [if_neg y, if_neg y, Int.mul_zero]
      rw [e1, s4_1' (f := fun j => if j < F 1 then v j else 0) hi, if_neg hi1]
  have h3 : s4 (fun i => s4 (fun j => (if j < F 1 then v j else 0) * bF F j i) * adj (bF F) i k) = 0 := by
    have e1 : s4 (fun i => s4 (fun j => (if j < F 1 then v j else 0) * bF F j i) * adj (bF F) i k) = s4 (fun _ => 0) := s4_c fun i hi => by rw [h2 i hi, Int.zero_mul]
    rw [e1]
    rfl
  have h4 : s4 (fun i => s4 (fun j => (if j < F 1 then v j else 0) * bF F j i) * adj (bF F) i k) = s4 (fun j => if j = k then (if j < F 1 then v j else 0) * dF F else 0) := by
    have e1 : s4 (fun i => s4 (fun j => (if j < F 1 then v j else 0) * bF F j i) * adj (bF F) i k) = s4 (fun i => s4 (fun j => (if j < F 1 then v j else 0) * (bF F j i * adj (bF F) i k))) := s4_c fun i _ => by
      rw [← s4_m2]
      refine s4_c fun j _ => ?_
      rw [Int.mul_assoc]
    rw [e1, s4_f]
    refine s4_c fun j hj => ?_
    rw [s4_m, Cadj hj ⟨hk0, by omega⟩]
    by_cases y : j = k
    · rw [if_pos y, if_pos y]
      rfl
    · rw [if_neg y, if_neg y, Int.mul_zero]
  rw [h3, s4_1' (f := fun j => (if j < F 1 then v j else 0) * dF F) ⟨hk0, by omega⟩, if_pos hk1] at h4
  rcases Int.mul_eq_zero.mp h4.symm with y | y
  · exact hv y
  · exact hd y
/-- the equations' answer is the tableau's -/
theorem d_ans {F : Int → Int} (g : GdP F) {C : Mx} {s : Int → Int} (hE : Elm (F 1) (F 1) (dcs F) C s) {j : Int} (hj : 0 ≤ j ∧ j < F 1) : dF F * tt C (dr F) (s j) = det4 C * -rF F (F 0 + j) := by
  have g1 := g.2.1
  obtain ⟨x, hx⟩ := at_pm hE.1 (fun j => if j < F 1 then -rF F (F 0 + j) else 0)
  have hs := hE.1.1 j hj.1 (by omega)
  have e1 : tt C (fun i => dF F * dr F i) (s j) = dF F * tt C (dr F) (s j) := by
    unfold tt
    rw [← s4_m]
    refine s4_c fun i _ => ?_
    dsimp only
    ac_rfl
  have e2 : tt C (fun i => dF F * dr F i) (s j) = det4 C * x (s j) := by
    refine tt_C hs (fun i hi => ?_)
    rw [← pm_sum hE.1 (fun k => C i k * x k)]
    have e3 : s4 (fun k => C i (s k) * x (s k)) = s4 (fun k => bF F k i * (if k < F 1 then -rF F (F 0 + k) else 0)) ∨ ¬ i < F 1 := by
      by_cases hi1 : i < F 1
      · refine Or.inl (s4_c fun k hk => ?_)
        rw [hx k hk.1 hk.2]
        by_cases y : k < F 1
        · rw [hE.2.2 k i hk.1 hk.2 hi.1 hi.2, if_pos y]
          unfold dcs bF
          rw [if_pos (show 0 ≤ i ∧ i < F 1 by omega), if_pos (show 0 ≤ i ∧ i < F 1 by omega)]
        · rw [if_neg y, Int.mul_zero, Int.mul_zero]
      · exact Or.inr hi1
    rcases e3 with e3 | e3
    · by_cases hi1 : i < F 1
      · rw [e3, d_sol g ⟨hi.1, hi1⟩]
        unfold dr
        rw [if_pos ⟨hi.1, hi1⟩]
      · have e4 : s4 (fun k => C i (s k) * x (s k)) = s4 (fun _ => 0) := s4_c fun k hk => by
          rw [hx k hk.1 hk.2]
          by_cases y : k < F 1
          · rw [hE.2.2 k i hk.1 hk.2 hi.1 hi.2, if_pos y]
            unfold dcs
            rw [if_neg (by omega), Int.zero_mul]
          · rw [if_neg y, Int.mul_zero]
        rw [e4]
        unfold dr
        rw [if_neg (by omega), Int.mul_zero]
        rfl
    · have e4 : s4 (fun k => C i (s k) * x (s k)) = s4 (fun _ => 0) := s4_c fun k hk => by
        rw [hx k hk.1 hk.2]
        by_cases y : k < F 1
        · rw [hE.2.2 k i hk.1 hk.2 hi.1 hi.2, if_pos y]
          unfold dcs
          rw [if_neg (by omega), Int.zero_mul]
        · rw [if_neg y, Int.mul_zero]
      rw [e4]
      unfold dr
      rw [if_neg (by omega), Int.mul_zero]
      rfl
  rw [← e1, e2, hx j hj.1 (by omega), if_pos hj.2]
end EQ
