section ML
/-! the reference lays its tableau -/
def Qs (th : Nat) (P : Nat → Prop) (c c' : W0) : Prop := (∀ q, q ≠ th → ¬ P q → c' q = c q) ∧ ∀ i : Int, i ≠ 16 → i ≠ 17 → c' th i = c th i
theorem Qs.rf {th : Nat} {P : Nat → Prop} {c : W0} : Qs th P c c := ⟨fun _ _ _ => rfl, fun _ _ _ => rfl⟩
theorem Qs.tr {th : Nat} {P : Nat → Prop} {c c1 c2 : W0} (h : Qs th P c c1) (h2 : Qs th P c1 c2) : Qs th P c c2 := ⟨fun q a b => (h2.1 q a b).trans (h.1 q a b), fun i a b => (h2.2 i a b).trans (h.2 i a b)⟩
theorem Qs.mo {th : Nat} {P P' : Nat → Prop} {c c1 : W0} (h : Qs th P c c1) (hP : ∀ q, P q → P' q) : Qs th P' c c1 := ⟨fun q a b => h.1 q a (fun z => b (hP q z)), h.2⟩
theorem Qs.fs {th : Nat} {P : Nat → Prop} {c : W0} {x y : Int} : Qs th P c (fs c th x y) := ⟨fun q a _ => fs_n a, fun i a b => fs_i ⟨a, b⟩⟩
theorem Qs.up {th q : Nat} {P : Nat → Prop} {c : W0} {F : Int → Int} (h : q ≠ th) (hq : P q) : Qs th P c (upc c q F) := ⟨fun z a b => upc_n (fun e => b (e ▸ hq)), fun i _ _ => by rw [upc_n (Ne.symm h)]⟩
def rw2 (c : W0) (th : Nat) (j x y : Int) : W0 := upc (upc (fs c th x y) (th + 10) (updZ (c (th + 10)) j x)) (th + 11) (updZ (c (th + 11)) j y)
theorem rw2_s {β : Type} {c : W0} {th : Nat} {j x y : Int} {P : Prop} {k : W0 → Option β} : (sto (fs c th x y) (th + 10) j (fs c th x y th 16) fun c3 => gd P (sto c3 (th + 11) j (c3 th 17) k)) = gd P (k (rw2 c th j x y)) := by
  simp only [sto, rw2]
  rw [fs_o, upc_n (show th ≠ th + 10 by omega), fs_u, upc_n (show th + 11 ≠ th + 10 by omega), fs_n (show th + 10 ≠ th by omega), fs_n (show th + 11 ≠ th by omega)]
theorem rw2_10 {c : W0} {th : Nat} {j x y : Int} : rw2 c th j x y (th + 10) = updZ (c (th + 10)) j x := by
  unfold rw2
  rw [upc_n (by omega), upc_s]
theorem rw2_11 {c : W0} {th : Nat} {j x y : Int} : rw2 c th j x y (th + 11) = updZ (c (th + 11)) j y := upc_s
theorem rw2_q {c : W0} {th : Nat} {j x y : Int} : Qs th (fun q => q = th + 10 ∨ q = th + 11) c (rw2 c th j x y) := by
  unfold rw2
  exact (Qs.fs.tr (Qs.up (by omega) (Or.inl rfl))).tr (Qs.up (by omega) (Or.inr rfl))
theorem nz_m {a b : Int} (ha : a ≠ 0) (hb : b ≠ 0) : a * b ≠ 0 := Int.mul_ne_zero ha hb
theorem nu_nz {n d : Int} (hd : d ≠ 0) (hn : n ≠ 0) : nu n d ≠ 0 := fun h => by
  obtain ⟨h1, h2, -⟩ := nu_e (n := n) hd
  rw [h, Int.zero_mul] at h1
  rcases Int.mul_eq_zero.mp h1.symm with h3 | h3
  · exact hn h3
  · omega
theorem nu_z {d : Int} (hd : d ≠ 0) {n : Int} : nu n d = 0 ↔ n = 0 := by
  refine ⟨fun h => Classical.byContradiction fun z => nu_nz hd z h, fun h => ?_⟩
  rw [h]
  unfold nu
  split <;> simp
theorem fr_div {X D T : Int} (hD : D ≠ 0) (hT : T ≠ 0) : de X D * nu T D ≠ 0 ∧ nu (nu X D * de T D) (de X D * nu T D) = nu X T ∧ de (nu X D * de T D) (de X D * nu T D) = de X T := by
  obtain ⟨x1, x2, -⟩ := nu_e (n := X) hD
  obtain ⟨t1, t2, -⟩ := nu_e (n := T) hD
  have t3 := nu_nz hD hT
  generalize nu X D = x at *
  generalize de X D = y at *
  generalize nu T D = t at *
  generalize de T D = u at *
  have h0 : y * t ≠ 0 := nz_m (by omega) t3
  refine ⟨h0, nu_u h0 hT ?_⟩
  refine Int.eq_of_mul_eq_mul_right hD ?_
  have e1 : x * u * T * D = x * D * (T * u) := by ac_rfl
  have e2 : X * (y * t) * D = X * y * (t * D) := by ac_rfl
  rw [e1, e2, x1, t1]
theorem fr_les {R Q P T V D : Int} (hD : D ≠ 0) (hT : T ≠ 0) (h : D * V = T * R - Q * P) : de R D * de Q D * de P T ≠ 0 ∧ nu (nu R D * de Q D * de P T - nu Q D * nu P T * de R D) (de R D * de Q D * de P T) = nu V T ∧ de (nu R D * de Q D * de P T - nu Q D * nu P T * de R D) (de R D * de Q D * de P T) = de V T := by
  obtain ⟨r1, r2, -⟩ := nu_e (n := R) hD
  obtain ⟨q1, q2, -⟩ := nu_e (n := Q) hD
  obtain ⟨p1, p2, -⟩ := nu_e (n := P) hT
  generalize nu R D = r at *
  generalize de R D = r' at *
  generalize nu Q D = q at *
  generalize de Q D = q' at *
  generalize nu P T = p at *
  generalize de P T = p' at *
  have h0 : r' * q' * p' ≠ 0 := nz_m (nz_m (by omega) (by omega)) (by omega)
  refine ⟨h0, nu_u h0 hT ?_⟩
  refine Int.eq_of_mul_eq_mul_right hD ?_
  have e1 : r * q' * p' * T * D = r * D * (q' * p' * T) := by ac_rfl
  have e2 : q * p * r' * T * D = q * D * (p * T) * r' := by ac_rfl
  have e3 : V * (r' * q' * p') * D = D * V * (r' * q' * p') := by ac_rfl
  have e4 : R * r' * (q' * p' * T) = T * R * (r' * q' * p') := by ac_rfl
  have e5 : Q * q' * (P * p') * r' = Q * P * (r' * q' * p') := by ac_rfl
  rw [Int.sub_mul, Int.sub_mul, e1, e2, e3, r1, q1, p1, h, e4, e5, Int.sub_mul]
abbrev B157 (z : Int) : Prop := -157464 ≤ z ∧ z ≤ 157464
abbrev B173 (z : Int) : Prop := -1732104 ≤ z ∧ z ≤ 1732104
theorem divs {th : Nat} {p T D : Int} {X : Int → Int} {c : W0} (hp : 0 ≤ p ∧ p < 4) (hD : D ≠ 0) (hD2 : B157 D) (hT : T ≠ 0) (hT2 : B157 T) (hX : ∀ q, 0 ≤ q → q < 9 → B173 (X q)) (hr : ∀ q, 0 ≤ q → q < 9 → c (th + 10) (9 * p + q) = nu (X q) D ∧ c (th + 11) (9 * p + q) = de (X q) D) :
    ∃ c', f_X9_divides th p (nu T D) (de T D) c = some (0, c') ∧ Qs th (fun q => q = th + 10 ∨ q = th + 11) c c' ∧ (∀ q, 0 ≤ q → q < 9 → c' (th + 10) (9 * p + q) = nu (X q) T ∧ c' (th + 11) (9 * p + q) = de (X q) T) ∧ ∀ j, j < 9 * p ∨ 9 * p + 9 ≤ j → c' (th + 10) j = c (th + 10) j ∧ c' (th + 11) j = c (th + 11) j := by
  have L : ∀ (k fuel : Nat) (l : Int) (c1 : W0), l + k = 9 → 0 ≤ l → k + 1 ≤ fuel → Qs th (fun q => q = th + 10 ∨ q = th + 11) c c1 → (∀ q, 0 ≤ q → q < l → c1 (th + 10) (9 * p + q) = nu (X q) T ∧ c1 (th + 11) (9 * p + q) = de (X q) T) → (∀ j, j < 9 * p ∨ 9 * p + l ≤ j → c1 (th + 10) j = c (th + 10) j ∧ c1 (th + 11) j = c (th + 11) j) →
      ∃ c', f_X9_divides_3 th p (nu T D) (de T D) (fun c1 => some (0, c1)) fuel l c1 = some (0, c') ∧ Qs th (fun q => q = th + 10 ∨ q = th + 11) c c' ∧ (∀ q, 0 ≤ q → q < 9 → c' (th + 10) (9 * p + q) = nu (X q) T ∧ c' (th + 11) (9 * p + q) = de (X q) T) ∧ ∀ j, j < 9 * p ∨ 9 * p + 9 ≤ j → c' (th + 10) j = c (th + 10) j ∧ c' (th + 11) j = c (th + 11) j := by
    intro k
    induction k with
    | zero =>
      intro fuel l c1 hl h0 hf hQ hd hu
      obtain ⟨f, rfl⟩ : ∃ f, fuel = f + 1 := ⟨fuel - 1, by omega⟩
      obtain rfl : l = 9 := by omega
      rw [f_X9_divides_3_s]
      unfold b_X9_divides_3
      rw [gd_t (by omega), bq_p (by omega)]
      exact ⟨c1, rfl, hQ, hd, hu⟩
    | succ k ih =>
      intro fuel l c1 hl h0 hf hQ hd hu
      obtain ⟨f, rfl⟩ : ∃ f, fuel = f + 1 := ⟨fuel - 1, by omega⟩
      rw [f_X9_divides_3_s]
      unfold b_X9_divides_3
      have e1 := (hu (9 * p + l) (by omega)).1.trans (hr l h0 (by omega)).1
      have e2 := (hu (9 * p + l) (by omega)).2.trans (hr l h0 (by omega)).2
      have x3 := nu_n (n := X l) (d := D); have x4 := de_n (n := X l) (d := D)
      have a3 := nu_n (n := T) (d := D); have a4 := de_n (n := T) (d := D)
      have hXl := hX l h0 (by omega)
      obtain ⟨g0, g1, g2⟩ := fr_div (X := X l) hD hT
      have m1 := mbd (x := nu (X l) D) (A := 1732104) (by omega) (show -157464 ≤ de T D ∧ de T D ≤ 157464 by omega)
      have m2 := mbd (x := de (X l) D) (A := 157464) (by omega) (show -157464 ≤ nu T D ∧ nu T D ≤ 157464 by omega)
      rw [gd_t (by omega), bq_n (by omega), gd_t (by omega), gd_t (by omega), e1, e2, becs ⟨by omega, by omega⟩ ⟨by omega, by omega⟩ g0, cl_s, gd_t (by omega), rw2_s, gd_t (by omega), g1, g2]
      refine ih f (l + 1) _ (by omega) (by omega) (by omega) (hQ.tr rw2_q) (fun q hq0 hq => ?_) (fun j hj => ?_)
      · rw [rw2_10, rw2_11]
        by_cases e : q = l
        · rw [e, updZ_s, updZ_s]; exact ⟨rfl, rfl⟩
        · rw [updZ_n (by omega), updZ_n (by omega)]; exact hd q hq0 (by omega)
      · rw [rw2_10, rw2_11, updZ_n (by omega), updZ_n (by omega)]
        exact hu j (by omega)
  exact L 9 LF 0 c (by omega) (by omega) (by rw [LF_g]; omega) Qs.rf (fun q h0 h => by omega) (fun j _ => ⟨rfl, rfl⟩)
theorem less {th : Nat} {r p T D Q : Int} {R P V : Int → Int} {c : W0} (hp : 0 ≤ p ∧ p < 4) (hr0 : 0 ≤ r ∧ r < 4) (hne : r ≠ p) (hD : D ≠ 0) (hD2 : B157 D) (hT : T ≠ 0) (hT2 : B157 T) (hQ2 : B157 Q) (hR : ∀ q, 0 ≤ q → q < 9 → B173 (R q)) (hP : ∀ q, 0 ≤ q → q < 9 → B173 (P q)) (hV : ∀ q, 0 ≤ q → q < 9 → D * V q = T * R q - Q * P q) (hr : ∀ q, 0 ≤ q → q < 9 → c (th + 10) (9 * r + q) = nu (R q) D ∧ c (th + 11) (9 * r + q) = de (R q) D) (hp9 : ∀ q, 0 ≤ q → q < 9 → c (th + 10) (9 * p + q) = nu (P q) T ∧ c (th + 11) (9 * p + q) = de (P q) T) :
    ∃ c', f_X9_lessens th r p (nu Q D) (de Q D) c = some (0, c') ∧ Qs th (fun q => q = th + 10 ∨ q = th + 11) c c' ∧ (∀ q, 0 ≤ q → q < 9 → c' (th + 10) (9 * r + q) = nu (V q) T ∧ c' (th + 11) (9 * r + q) = de (V q) T) ∧ ∀ j, j < 9 * r ∨ 9 * r + 9 ≤ j → c' (th + 10) j = c (th + 10) j ∧ c' (th + 11) j = c (th + 11) j := by
  have L : ∀ (k fuel : Nat) (l : Int) (c1 : W0), l + k = 9 → 0 ≤ l → k + 1 ≤ fuel → Qs th (fun q => q = th + 10 ∨ q = th + 11) c c1 → (∀ q, 0 ≤ q → q < l → c1 (th + 10) (9 * r + q) = nu (V q) T ∧ c1 (th + 11) (9 * r + q) = de (V q) T) → (∀ j, j < 9 * r ∨ 9 * r + l ≤ j → c1 (th + 10) j = c (th + 10) j ∧ c1 (th + 11) j = c (th + 11) j) →
      ∃ c', f_X9_lessens_3 th r p (nu Q D) (de Q D) (fun c1 => some (0, c1)) fuel l c1 = some (0, c') ∧ Qs th (fun q => q = th + 10 ∨ q = th + 11) c c' ∧ (∀ q, 0 ≤ q → q < 9 → c' (th + 10) (9 * r + q) = nu (V q) T ∧ c' (th + 11) (9 * r + q) = de (V q) T) ∧ ∀ j, j < 9 * r ∨ 9 * r + 9 ≤ j → c' (th + 10) j = c (th + 10) j ∧ c' (th + 11) j = c (th + 11) j := by
    intro k
    induction k with
    | zero =>
      intro fuel l c1 hl h0 hf hQ hd hu
      obtain ⟨f, rfl⟩ : ∃ f, fuel = f + 1 := ⟨fuel - 1, by omega⟩
      obtain rfl : l = 9 := by omega
      rw [f_X9_lessens_3_s]
      unfold b_X9_lessens_3
      rw [gd_t (by omega), bq_p (by omega)]
      exact ⟨c1, rfl, hQ, hd, hu⟩
    | succ k ih =>
      intro fuel l c1 hl h0 hf hQ hd hu
      obtain ⟨f, rfl⟩ : ∃ f, fuel = f + 1 := ⟨fuel - 1, by omega⟩
      rw [f_X9_lessens_3_s]
      unfold b_X9_lessens_3
      have e1 := (hu (9 * r + l) (by omega)).1.trans (hr l h0 (by omega)).1
      have e2 := (hu (9 * r + l) (by omega)).2.trans (hr l h0 (by omega)).2
      have e3 := (hu (9 * p + l) (by omega)).1.trans (hp9 l h0 (by omega)).1
      have e4 := (hu (9 * p + l) (by omega)).2.trans (hp9 l h0 (by omega)).2
      have x3 := nu_n (n := R l) (d := D); have x4 := de_n (n := R l) (d := D)
      have y3 := nu_n (n := P l) (d := T); have y4 := de_n (n := P l) (d := T)
      have a3 := nu_n (n := Q) (d := D); have a4 := de_n (n := Q) (d := D)
      have hRl := hR l h0 (by omega)
      have hPl := hP l h0 (by omega)
      obtain ⟨g0, g1, g2⟩ := fr_les (R := R l) (Q := Q) (P := P l) (V := V l) hD hT (hV l h0 (by omega))
      have m1 := mbd (mbd (x := nu (R l) D) (A := 1732104) (by omega) (show -157464 ≤ de Q D ∧ de Q D ≤ 157464 by omega)) (show -157464 ≤ de (P l) T ∧ de (P l) T ≤ 157464 by omega)
      have m2 := mbd (mbd (x := nu Q D) (A := 157464) (by omega) (show -1732104 ≤ nu (P l) T ∧ nu (P l) T ≤ 1732104 by omega)) (show -157464 ≤ de (R l) D ∧ de (R l) D ≤ 157464 by omega)
      have m3 := mbd (mbd (x := de (R l) D) (A := 157464) (by omega) (show -157464 ≤ de Q D ∧ de Q D ≤ 157464 by omega)) (show -157464 ≤ de (P l) T ∧ de (P l) T ≤ 157464 by omega)
      rw [gd_t (by omega), bq_n (by omega), gd_t (by omega), gd_t (by omega), gd_t (by omega), gd_t (by omega), gd_t (by omega), gd_t (by omega), e1, e2, e3, e4, becs ⟨by omega, by omega⟩ ⟨by omega, by omega⟩ g0, cl_s, gd_t (by omega), rw2_s, gd_t (by omega), g1, g2]
      refine ih f (l + 1) _ (by omega) (by omega) (by omega) (hQ.tr rw2_q) (fun q hq0 hq => ?_) (fun j hj => ?_)
      · rw [rw2_10, rw2_11]
        by_cases e : q = l
        · rw [e, updZ_s, updZ_s]; exact ⟨rfl, rfl⟩
        · rw [updZ_n (by omega), updZ_n (by omega)]; exact hd q hq0 (by omega)
      · rw [rw2_10, rw2_11, updZ_n (by omega), updZ_n (by omega)]
        exact hu j (by omega)
  exact L 9 LF 0 c (by omega) (by omega) (by rw [LF_g]; omega) Qs.rf (fun q h0 h => by omega) (fun j _ => ⟨rfl, rfl⟩)
/-! bits of small sets -/
def bt (u r : Int) : Int := iandZ (ishrZ u r) 1
theorem bt_d : ∀ u : Fin 256, ∀ r : Fin 8, bt u.val r.val = ((u.val / 2 ^ r.val % 2 : Nat) : Int) := by decide +kernel
theorem bt_o : ∀ u : Fin 16, ∀ p r : Fin 4, 0 ≤ iorZ u.val (ishlZ 1 p.val) ∧ iorZ u.val (ishlZ 1 p.val) < 16 ∧ (bt (iorZ u.val (ishlZ 1 p.val)) r.val = 0 ↔ (r.val ≠ p.val ∧ bt u.val r.val = 0)) := by decide +kernel
theorem bt_01 {u r : Int} (hu : 0 ≤ u ∧ u < 256) (hr : 0 ≤ r ∧ r < 8) : bt u r = 0 ∨ bt u r = 1 := by
  have h := bt_d ⟨u.toNat, by omega⟩ ⟨r.toNat, by omega⟩
  rw [show (((⟨u.toNat, by omega⟩ : Fin 256).val : Nat) : Int) = u by show ((u.toNat : Nat) : Int) = u; omega, show (((⟨r.toNat, by omega⟩ : Fin 8).val : Nat) : Int) = r by show ((r.toNat : Nat) : Int) = r; omega] at h
  rw [h]
  omega
theorem bt_s {u p r : Int} (hu : 0 ≤ u ∧ u < 16) (hp : 0 ≤ p ∧ p < 4) (hr : 0 ≤ r ∧ r < 4) : (0 ≤ iorZ u (ishlZ 1 p) ∧ iorZ u (ishlZ 1 p) < 16) ∧ (bt (iorZ u (ishlZ 1 p)) r = 0 ↔ (r ≠ p ∧ bt u r = 0)) := by
  have h := bt_o ⟨u.toNat, by omega⟩ ⟨p.toNat, by omega⟩ ⟨r.toNat, by omega⟩
  rw [show (((⟨u.toNat, by omega⟩ : Fin 16).val : Nat) : Int) = u by show ((u.toNat : Nat) : Int) = u; omega, show (((⟨r.toNat, by omega⟩ : Fin 4).val : Nat) : Int) = r by show ((r.toNat : Nat) : Int) = r; omega, show (((⟨p.toNat, by omega⟩ : Fin 4).val : Nat) : Int) = p by show ((p.toNat : Nat) : Int) = p; omega] at h
  refine ⟨⟨h.1, h.2.1⟩, h.2.2.trans ⟨fun z => ⟨fun e => z.1 (by show r.toNat = p.toNat; omega), z.2⟩, fun z => ⟨fun e => z.1 (by have e : r.toNat = p.toNat := e; omega), z.2⟩⟩⟩
theorem free {th : Nat} {q u m : Int} {c : W0} (hm : 0 ≤ m ∧ m ≤ 4) (hm1 : c (th + 1) 1 = m) (hu : 0 ≤ u ∧ u < 16) (hq : 0 ≤ q ∧ q < 9) (hR : ∀ r, 0 ≤ r → r < m → R64 (c (th + 10) (9 * r + q))) :
    ∃ v, f_X9_freeRow th q u c = some v ∧ ((v = -1 ∧ ∀ r, 0 ≤ r → r < m → ¬ (bt u r = 0 ∧ c (th + 10) (9 * r + q) ≠ 0)) ∨ (0 ≤ v ∧ v < m ∧ bt u v = 0 ∧ c (th + 10) (9 * v + q) ≠ 0)) := by
  have L : ∀ (k fuel : Nat) (l3 l4 : Int), l4 + 1 = k → l4 < m → k + 1 ≤ fuel → ((l3 = -1 ∧ ∀ r, l4 < r → r < m → ¬ (bt u r = 0 ∧ c (th + 10) (9 * r + q) ≠ 0)) ∨ (0 ≤ l3 ∧ l3 < m ∧ bt u l3 = 0 ∧ c (th + 10) (9 * l3 + q) ≠ 0)) →
      ∃ v, f_X9_freeRow_12 th q u c (fun v1 => some v1) fuel l3 l4 = some v ∧ ((v = -1 ∧ ∀ r, 0 ≤ r → r < m → ¬ (bt u r = 0 ∧ c (th + 10) (9 * r + q) ≠ 0)) ∨ (0 ≤ v ∧ v < m ∧ bt u v = 0 ∧ c (th + 10) (9 * v + q) ≠ 0)) := by
    intro k
    induction k with
    | zero =>
      intro fuel l3 l4 hk hl hf hI
      obtain ⟨f, rfl⟩ : ∃ f, fuel = f + 1 := ⟨fuel - 1, by omega⟩
      rw [f_X9_freeRow_12_s]
      unfold b_X9_freeRow_12
      rw [gd_t (by omega), bq_p (by omega)]
      refine ⟨l3, rfl, ?_⟩
      rcases hI with ⟨h1, h2⟩ | h
      · exact Or.inl ⟨h1, fun r h0 h => h2 r (by omega) h⟩
      · exact Or.inr h
    | succ k ih =>
      intro fuel l3 l4 hk hl hf hI
      obtain ⟨f, rfl⟩ : ∃ f, fuel = f + 1 := ⟨fuel - 1, by omega⟩
      rw [f_X9_freeRow_12_s]
      unfold b_X9_freeRow_12
      have hb := bt_01 (u := u) (r := l4) (by omega) (by omega)
      have hbe : iandZ (ishrZ u l4) 1 = bt u l4 := rfl
      rw [gd_t (by omega), bq_n (by omega), hbe, gd_t (by omega)]
      have skip : (¬ (bt u l4 = 0 ∧ c (th + 10) (9 * l4 + q) ≠ 0)) → ∃ v, f_X9_freeRow_12 th q u c (fun v1 => some v1) f l3 (l4 + -1) = some v ∧ ((v = -1 ∧ ∀ r, 0 ≤ r → r < m → ¬ (bt u r = 0 ∧ c (th + 10) (9 * r + q) ≠ 0)) ∨ (0 ≤ v ∧ v < m ∧ bt u v = 0 ∧ c (th + 10) (9 * v + q) ≠ 0)) := fun hn => by
        refine ih f l3 (l4 + -1) (by omega) (by omega) (by omega) ?_
        rcases hI with ⟨h1, h2⟩ | h
        · refine Or.inl ⟨h1, fun r h0 h => ?_⟩
          by_cases e : r = l4
          · rw [e]; exact hn
          · exact h2 r (by omega) h
        · exact Or.inr h
      by_cases h1 : bt u l4 = 0
      · rw [bq_p h1, gd_t (by omega), gd_t (hR l4 (by omega) hl)]
        by_cases h2 : c (th + 10) (9 * l4 + q) = 0
        · rw [bq_p h2]; exact skip (fun z => z.2 h2)
        · rw [bq_n h2]
          exact ih f l4 (l4 + -1) (by omega) (by omega) (by omega) (Or.inr ⟨by omega, hl, h1, h2⟩)
      · rw [bq_n h1]; exact skip (fun z => h1 z.1)
  unfold f_X9_freeRow
  rw [hm1]
  exact L m.toNat LF (-1) (m - 1) (by omega) (by omega) (by rw [LF_g]; omega) (Or.inl ⟨rfl, fun r h0 h => by omega⟩)
end ML
