section M4
/-! whole 4 x 4 matrices: C i r, row i, column r -/
abbrev Mx : Type := Int → Int → Int
def s4 (f : Int → Int) : Int := f 0 + f 1 + f 2 + f 3
def det3 (a b c d e f g h i : Int) : Int := a * (e * i - f * h) - b * (d * i - f * g) + c * (d * h - e * g)
def mn (C : Mx) (x y z a b c : Int) : Int := det3 (C x a) (C x b) (C x c) (C y a) (C y b) (C y c) (C z a) (C z b) (C z c)
def adj (C : Mx) (r i : Int) : Int :=
  if r = 0 then (if i = 0 then mn C 1 2 3 1 2 3 else if i = 1 then -mn C 0 2 3 1 2 3 else if i = 2 then mn C 0 1 3 1 2 3 else -mn C 0 1 2 1 2 3)
  else if r = 1 then (if i = 0 then -mn C 1 2 3 0 2 3 else if i = 1 then mn C 0 2 3 0 2 3 else if i = 2 then -mn C 0 1 3 0 2 3 else mn C 0 1 2 0 2 3)
  else if r = 2 then (if i = 0 then mn C 1 2 3 0 1 3 else if i = 1 then -mn C 0 2 3 0 1 3 else if i = 2 then mn C 0 1 3 0 1 3 else -mn C 0 1 2 0 1 3)
  else (if i = 0 then -mn C 1 2 3 0 1 2 else if i = 1 then mn C 0 2 3 0 1 2 else if i = 2 then -mn C 0 1 3 0 1 2 else mn C 0 1 2 0 1 2)
def det4 (C : Mx) : Int := s4 (fun i => adj C 0 i * C i 0)
theorem i4 {r : Int} (h : 0 ≤ r ∧ r < 4) : r = 0 ∨ r = 1 ∨ r = 2 ∨ r = 3 := by omega
theorem s4_c {f g : Int → Int} (h : ∀ i, 0 ≤ i ∧ i < 4 → f i = g i) : s4 f = s4 g := by
  simp only [s4]
  rw [h 0 (by omega), h 1 (by omega), h 2 (by omega), h 3 (by omega)]
theorem s4_a {f g : Int → Int} : s4 (fun i => f i + g i) = s4 f + s4 g := by simp only [s4]; omega
theorem s4_s {f g : Int → Int} : s4 (fun i => f i - g i) = s4 f - s4 g := by simp only [s4]; omega
theorem s4_m {f : Int → Int} {k : Int} : s4 (fun i => k * f i) = k * s4 f := by simp only [s4, Int.mul_add]
theorem s4_m2 {f : Int → Int} {k : Int} : s4 (fun i => f i * k) = s4 f * k := by simp only [s4, Int.add_mul]
theorem s4_f {f : Int → Int → Int} : s4 (fun i => s4 (fun j => f i j)) = s4 (fun j => s4 (fun i => f i j)) := by simp only [s4]; omega
theorem s4_1 {f : Int → Int} {r : Int} (h : 0 ≤ r ∧ r < 4) : s4 (fun i => if r = i then f i else 0) = f r := by
  rcases i4 h with rfl | rfl | rfl | rfl <;> simp [s4]
theorem s4_1' {f : Int → Int} {r : Int} (h : 0 ≤ r ∧ r < 4) : s4 (fun i => if i = r then f i else 0) = f r := by
  rcases i4 h with rfl | rfl | rfl | rfl <;> simp [s4]
set_option maxHeartbeats 4000000 in
theorem adjC {C : Mx} {r k : Int} (hr : 0 ≤ r ∧ r < 4) (hk : 0 ≤ k ∧ k < 4) : s4 (fun i => adj C r i * C i k) = if r = k then det4 C else 0 := by
  rcases i4 hr with rfl | rfl | rfl | rfl <;> rcases i4 hk with rfl | rfl | rfl | rfl <;> simp [s4, adj, mn, det3, det4] <;> grind
set_option maxHeartbeats 4000000 in
theorem Cadj {C : Mx} {i j : Int} (hi : 0 ≤ i ∧ i < 4) (hj : 0 ≤ j ∧ j < 4) : s4 (fun k => C i k * adj C k j) = if i = j then det4 C else 0 := by
  rcases i4 hi with rfl | rfl | rfl | rfl <;> rcases i4 hj with rfl | rfl | rfl | rfl <;> simp [s4, adj, mn, det3, det4] <;> grind
theorem mn_c {C C' : Mx} {x y z a b c : Int} (h : ∀ i, (i = x ∨ i = y ∨ i = z) → C i a = C' i a ∧ C i b = C' i b ∧ C i c = C' i c) : mn C x y z a b c = mn C' x y z a b c := by
  unfold mn
  rw [(h x (by omega)).1, (h x (by omega)).2.1, (h x (by omega)).2.2, (h y (by omega)).1, (h y (by omega)).2.1, (h y (by omega)).2.2, (h z (by omega)).1, (h z (by omega)).2.1, (h z (by omega)).2.2]
/-- the row r of the adjoint doesn't see the column r -/
theorem adj_c {C C' : Mx} {r i : Int} (hr : 0 ≤ r ∧ r < 4) (h : ∀ x y, 0 ≤ x ∧ x < 4 → 0 ≤ y ∧ y < 4 → y ≠ r → C x y = C' x y) : adj C r i = adj C' r i := by
  have hm : ∀ x y z a b c, 0 ≤ x ∧ x < 4 → 0 ≤ y ∧ y < 4 → 0 ≤ z ∧ z < 4 → 0 ≤ a ∧ a < 4 ∧ a ≠ r → 0 ≤ b ∧ b < 4 ∧ b ≠ r → 0 ≤ c ∧ c < 4 ∧ c ≠ r → mn C x y z a b c = mn C' x y z a b c := by
    intro x y z a b c hx hy hz ha hb hc
    refine mn_c (fun i hi => ?_)
    have hi4 : 0 ≤ i ∧ i < 4 := by omega
    exact ⟨h i a hi4 ⟨ha.1, ha.2.1⟩ ha.2.2, h i b hi4 ⟨hb.1, hb.2.1⟩ hb.2.2, h i c hi4 ⟨hc.1, hc.2.1⟩ hc.2.2⟩
  unfold adj
  rcases i4 hr with rfl | rfl | rfl | rfl
  · rw [if_pos rfl, if_pos rfl, hm 1 2 3 1 2 3 (by omega) (by omega) (by omega) (by omega) (by omega) (by omega), hm 0 2 3 1 2 3 (by omega) (by omega) (by omega) (by omega) (by omega) (by omega), hm 0 1 3 1 2 3 (by omega) (by omega) (by omega) (by omega) (by omega) (by omega), hm 0 1 2 1 2 3 (by omega) (by omega) (by omega) (by omega) (by omega) (by omega)]
  · rw [if_neg (show ¬ (1 : Int) = 0 by decide), if_neg (show ¬ (1 : Int) = 0 by decide), if_pos rfl, if_pos rfl, hm 1 2 3 0 2 3 (by omega) (by omega) (by omega) (by omega) (by omega) (by omega), hm 0 2 3 0 2 3 (by omega) (by omega) (by omega) (by omega) (by omega) (by omega), hm 0 1 3 0 2 3 (by omega) (by omega) (by omega) (by omega) (by omega) (by omega), hm 0 1 2 0 2 3 (by omega) (by omega) (by omega) (by omega) (by omega) (by omega)]
  · rw [if_neg (show ¬ (2 : Int) = 0 by decide), if_neg (show ¬ (2 : Int) = 0 by decide), if_neg (show ¬ (2 : Int) = 1 by decide), if_neg (show ¬ (2 : Int) = 1 by decide), if_pos rfl, if_pos rfl, hm 1 2 3 0 1 3 (by omega) (by omega) (by omega) (by omega) (by omega) (by omega), hm 0 2 3 0 1 3 (by omega) (by omega) (by omega) (by omega) (by omega) (by omega), hm 0 1 3 0 1 3 (by omega) (by omega) (by omega) (by omega) (by omega) (by omega), hm 0 1 2 0 1 3 (by omega) (by omega) (by omega) (by omega) (by omega) (by omega)]
  · rw [if_neg (show ¬ (3 : Int) = 0 by decide), if_neg (show ¬ (3 : Int) = 0 by decide), if_neg (show ¬ (3 : Int) = 1 by decide), if_neg (show ¬ (3 : Int) = 1 by decide), if_neg (show ¬ (3 : Int) = 2 by decide), if_neg (show ¬ (3 : Int) = 2 by decide), hm 1 2 3 0 1 2 (by omega) (by omega) (by omega) (by omega) (by omega) (by omega), hm 0 2 3 0 1 2 (by omega) (by omega) (by omega) (by omega) (by omega) (by omega), hm 0 1 3 0 1 2 (by omega) (by omega) (by omega) (by omega) (by omega) (by omega), hm 0 1 2 0 1 2 (by omega) (by omega) (by omega) (by omega) (by omega) (by omega)]
theorem det_c {C C' : Mx} (h : ∀ x y, 0 ≤ x ∧ x < 4 → 0 ≤ y ∧ y < 4 → C x y = C' x y) : det4 C = det4 C' := by
  unfold det4
  exact s4_c fun i hi => by rw [adj_c (by omega) (fun x y hx hy _ => h x y hx hy), h i 0 hi (by omega)]
/-- det C times what solves C x = a -/
def tt (C : Mx) (a : Int → Int) (r : Int) : Int := s4 (fun i => adj C r i * a i)
def col (C : Mx) (p : Int) (v : Int → Int) : Mx := fun i r => if r = p then v i else C i r
theorem tt_c {C C' : Mx} {a a' : Int → Int} {r : Int} (hr : 0 ≤ r ∧ r < 4) (h : ∀ x y, 0 ≤ x ∧ x < 4 → 0 ≤ y ∧ y < 4 → y ≠ r → C x y = C' x y) (ha : ∀ i, 0 ≤ i ∧ i < 4 → a i = a' i) : tt C a r = tt C' a' r := by
  unfold tt
  exact s4_c fun i hi => by rw [adj_c hr h, ha i hi]
theorem tt_col {C : Mx} {p : Int} {v a : Int → Int} (hp : 0 ≤ p ∧ p < 4) : tt (col C p v) a p = tt C a p := tt_c hp (fun x y _ _ hy => if_neg hy) (fun _ _ => rfl)
theorem det_e {C : Mx} {p : Int} (hp : 0 ≤ p ∧ p < 4) : det4 C = tt C (fun i => C i p) p := by
  have h := adjC (C := C) hp hp
  rw [if_pos rfl] at h
  exact h.symm
theorem det_col {C : Mx} {p : Int} {v : Int → Int} (hp : 0 ≤ p ∧ p < 4) : det4 (col C p v) = tt C v p := by
  rw [det_e hp, tt_col hp]
  exact tt_c hp (fun _ _ _ _ _ => rfl) (fun i _ => if_pos rfl)
theorem tt_self {C : Mx} {k r : Int} (hr : 0 ≤ r ∧ r < 4) (hk : 0 ≤ k ∧ k < 4) : tt C (fun i => C i k) r = if r = k then det4 C else 0 := adjC hr hk
theorem C_tt {C : Mx} {a : Int → Int} {i : Int} (hi : 0 ≤ i ∧ i < 4) : s4 (fun r => C i r * tt C a r) = det4 C * a i := by
  have e : ∀ r, C i r * tt C a r = s4 (fun k => C i r * adj C r k * a k) := fun r => by
    unfold tt
    rw [← s4_m]
    exact s4_c fun k _ => (Int.mul_assoc ..).symm
  rw [s4_c fun r _ => e r, s4_f]
  have e2 : ∀ k, 0 ≤ k ∧ k < 4 → s4 (fun r => C i r * adj C r k * a k) = if i = k then det4 C * a k else 0 := fun k hk => by
    rw [s4_m2 (f := fun r => C i r * adj C r k), Cadj hi hk]
    by_cases h : i = k
    · rw [if_pos h, if_pos h]
    · rw [if_neg h, if_neg h, Int.zero_mul]
  rw [s4_c e2, s4_1 (f := fun k => det4 C * a k) hi]
theorem tt_C {C : Mx} {x b : Int → Int} {r : Int} (hr : 0 ≤ r ∧ r < 4) (h : ∀ i, 0 ≤ i ∧ i < 4 → s4 (fun k => C i k * x k) = b i) : tt C b r = det4 C * x r := by
  unfold tt
  have e : ∀ i, 0 ≤ i ∧ i < 4 → adj C r i * b i = s4 (fun k => adj C r i * C i k * x k) := fun i hi => by
    rw [← h i hi, ← s4_m]
    exact s4_c fun k _ => (Int.mul_assoc ..).symm
  rw [s4_c e, s4_f]
  have e2 : ∀ k, 0 ≤ k ∧ k < 4 → s4 (fun i => adj C r i * C i k * x k) = if r = k then det4 C * x k else 0 := fun k hk => by
    rw [s4_m2 (f := fun i => adj C r i * C i k), adjC hr hk]
    by_cases h : r = k
    · rw [if_pos h, if_pos h]
    · rw [if_neg h, if_neg h, Int.zero_mul]
  rw [s4_c e2, s4_1 (f := fun k => det4 C * x k) hr]
theorem tt_lin {C : Mx} {a b : Int → Int} {x y r : Int} : tt C (fun i => x * a i - b i * y) r = x * tt C a r - tt C b r * y := by
  unfold tt
  rw [← s4_m, ← s4_m2, ← s4_s]
  exact s4_c fun i _ => by rw [Int.mul_sub, ← Int.mul_assoc, ← Int.mul_assoc, ← Int.mul_assoc, Int.mul_comm x]
/-- another column: what becomes of the tableau -/
theorem tt_piv {C : Mx} {p r : Int} {v a : Int → Int} (hp : 0 ≤ p ∧ p < 4) (hr : 0 ≤ r ∧ r < 4) (hrp : r ≠ p) : det4 C * tt (col C p v) a r = det4 (col C p v) * tt C a r - tt C v r * tt C a p := by
  have h1 : ∀ i, 0 ≤ i ∧ i < 4 → s4 (fun k => C i k * (if k = p then 0 else tt (col C p v) a k)) = det4 (col C p v) * a i - v i * tt C a p := fun i hi => by
    have h2 := C_tt (C := col C p v) (a := a) hi
    have h3 : ∀ k, 0 ≤ k ∧ k < 4 → C i k * (if k = p then 0 else tt (col C p v) a k) = col C p v i k * tt (col C p v) a k - (if k = p then v i * tt C a p else 0) := fun k _ => by
      by_cases hk : k = p
      · subst hk
        rw [if_pos rfl, if_pos rfl, tt_col hp]
        unfold col
        rw [if_pos rfl]
        omega
      · rw [if_neg hk, if_neg hk]
        unfold col
        rw [if_neg hk]
        omega
    rw [s4_c h3, s4_s, h2, s4_1' (f := fun _ => v i * tt C a p) hp]
  have h4 := tt_C (C := C) hr h1
  rw [tt_lin, if_neg hrp] at h4
  exact h4.symm
/-- bounds -/
theorem mbd {x y A B : Int} (hx : -A ≤ x ∧ x ≤ A) (hy : -B ≤ y ∧ y ≤ B) : -(A * B) ≤ x * y ∧ x * y ≤ A * B := by
  have hA : 0 ≤ A := by omega
  have hB : 0 ≤ B := by omega
  have hx' : x.natAbs ≤ A.natAbs := by omega
  have hy' : y.natAbs ≤ B.natAbs := by omega
  have h := Nat.mul_le_mul hx' hy'
  rw [← Int.natAbs_mul, ← Int.natAbs_mul] at h
  have h0 : 0 ≤ A * B := Int.mul_nonneg hA hB
  omega
abbrev B9 (z : Int) : Prop := -9 ≤ z ∧ z ≤ 9
theorem det3_b {a b c d e f g h i : Int} (ha : B9 a) (hb : B9 b) (hc : B9 c) (hd : B9 d) (he : B9 e) (hf : B9 f) (hg : B9 g) (hh : B9 h) (hi : B9 i) : -4374 ≤ det3 a b c d e f g h i ∧ det3 a b c d e f g h i ≤ 4374 := by
  have h1 := mbd he hi
  have h2 := mbd hf hh
  have h3 := mbd hd hi
  have h4 := mbd hf hg
  have h5 := mbd hd hh
  have h6 := mbd he hg
  have h7 := mbd ha (show -162 ≤ e * i - f * h ∧ e * i - f * h ≤ 162 by omega)
  have h8 := mbd hb (show -162 ≤ d * i - f * g ∧ d * i - f * g ≤ 162 by omega)
  have h9 := mbd hc (show -162 ≤ d * h - e * g ∧ d * h - e * g ≤ 162 by omega)
  unfold det3
  omega
theorem adj_b {C : Mx} {r i : Int} (hr : 0 ≤ r ∧ r < 4) (h : ∀ x y, 0 ≤ x ∧ x < 4 → 0 ≤ y ∧ y < 4 → B9 (C x y)) : -4374 ≤ adj C r i ∧ adj C r i ≤ 4374 := by
  have hm : ∀ x y z a b c, 0 ≤ x ∧ x < 4 → 0 ≤ y ∧ y < 4 → 0 ≤ z ∧ z < 4 → 0 ≤ a ∧ a < 4 → 0 ≤ b ∧ b < 4 → 0 ≤ c ∧ c < 4 → -4374 ≤ mn C x y z a b c ∧ mn C x y z a b c ≤ 4374 := fun x y z a b c hx hy hz ha hb hc =>
    det3_b (h x a hx ha) (h x b hx hb) (h x c hx hc) (h y a hy ha) (h y b hy hb) (h y c hy hc) (h z a hz ha) (h z b hz hb) (h z c hz hc)
  have hn : ∀ z : Int, -4374 ≤ z ∧ z ≤ 4374 → -4374 ≤ -z ∧ -z ≤ 4374 := fun z hz => by omega
  unfold adj
  (repeat' split) <;> first | exact hm _ _ _ _ _ _ (by decide) (by decide) (by decide) (by decide) (by decide) (by decide) | exact hn _ (hm _ _ _ _ _ _ (by decide) (by decide) (by decide) (by decide) (by decide) (by decide))
theorem tt_b {C : Mx} {a : Int → Int} {r A : Int} (hr : 0 ≤ r ∧ r < 4) (h : ∀ x y, 0 ≤ x ∧ x < 4 → 0 ≤ y ∧ y < 4 → B9 (C x y)) (ha : ∀ i, 0 ≤ i ∧ i < 4 → -A ≤ a i ∧ a i ≤ A) : -(17496 * A) ≤ tt C a r ∧ tt C a r ≤ 17496 * A := by
  have h0 := mbd (adj_b (i := 0) hr h) (ha 0 (by omega))
  have h1 := mbd (adj_b (i := 1) hr h) (ha 1 (by omega))
  have h2 := mbd (adj_b (i := 2) hr h) (ha 2 (by omega))
  have h3 := mbd (adj_b (i := 3) hr h) (ha 3 (by omega))
  simp only [tt, s4]
  omega
theorem det_b {C : Mx} (h : ∀ x y, 0 ≤ x ∧ x < 4 → 0 ≤ y ∧ y < 4 → B9 (C x y)) : -157464 ≤ det4 C ∧ det4 C ≤ 157464 := by
  have h1 := tt_b (C := C) (a := fun i => C i 0) (r := 0) (A := 9) (by omega) h (fun i hi => h i 0 hi (by omega))
  rw [← det_e (by omega)] at h1
  omega
/-- one answer: two matrices with the same columns, perhaps in other places -/
theorem s4_p {f : Int → Int} {s : Int → Int} (hs : ∀ i, 0 ≤ i ∧ i < 4 → 0 ≤ s i ∧ s i < 4) (hi : ∀ i j, 0 ≤ i ∧ i < 4 → 0 ≤ j ∧ j < 4 → s i = s j → i = j) : s4 (fun i => f (s i)) = s4 f := by
  have a0 := i4 (hs 0 (by omega)); have a1 := i4 (hs 1 (by omega)); have a2 := i4 (hs 2 (by omega)); have a3 := i4 (hs 3 (by omega))
  have b1 := hi 0 1 (by omega) (by omega); have b2 := hi 0 2 (by omega) (by omega); have b3 := hi 0 3 (by omega) (by omega)
  have b4 := hi 1 2 (by omega) (by omega); have b5 := hi 1 3 (by omega) (by omega); have b6 := hi 2 3 (by omega) (by omega)
  simp only [s4]
  rcases a0 with e0 | e0 | e0 | e0 <;> rcases a1 with e1 | e1 | e1 | e1 <;> (try (exfalso; omega)) <;> rcases a2 with e2 | e2 | e2 | e2 <;> (try (exfalso; omega)) <;> rcases a3 with e3 | e3 | e3 | e3 <;> (try (exfalso; omega)) <;> (rw [e0, e1, e2, e3] <;> omega)
theorem tt_u {C C' : Mx} {s a : Int → Int} {k : Int} (hs : ∀ i, 0 ≤ i ∧ i < 4 → 0 ≤ s i ∧ s i < 4) (hi : ∀ i j, 0 ≤ i ∧ i < 4 → 0 ≤ j ∧ j < 4 → s i = s j → i = j) (hC : ∀ i r, 0 ≤ i ∧ i < 4 → 0 ≤ r ∧ r < 4 → C' i (s r) = C i r) (hk : 0 ≤ k ∧ k < 4) : det4 C' * tt C a k = det4 C * tt C' a (s k) := by
  have h1 : ∀ i, 0 ≤ i ∧ i < 4 → s4 (fun r => C i r * tt C' a (s r)) = det4 C' * a i - 0 * 0 := fun i hi2 => by
    have h2 := C_tt (C := C') (a := a) hi2
    rw [← s4_p hs hi] at h2
    rw [s4_c (g := fun r => C' i (s r) * tt C' a (s r)) (fun r hr => by rw [hC i r hi2 hr]), h2]
    omega
  have h3 := tt_C (C := C) hk h1
  rw [show (fun i => det4 C' * a i - 0 * 0) = fun i => det4 C' * a i - (fun _ => 0) i * 0 from rfl, tt_lin] at h3
  omega
/-- columns that hang together: no answer -/
theorem det_0 {C : Mx} {x : Int → Int} {r : Int} (hr : 0 ≤ r ∧ r < 4) (h : ∀ i, 0 ≤ i ∧ i < 4 → s4 (fun k => C i k * x k) = 0) (hx : x r ≠ 0) : det4 C = 0 := by
  have h1 := tt_C (C := C) (b := fun _ => 0) hr h
  have h2 : tt C (fun _ => 0) r = 0 := by simp [tt, s4]
  rw [h2] at h1
  rcases Int.mul_eq_zero.mp h1.symm with h3 | h3
  · exact h3
  · exact absurd h3 hx
end M4
