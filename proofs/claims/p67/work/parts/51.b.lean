section FX
/-! doubles above 0, c * 2^q with 53 digits -/
theorem b_t : FP.Core.Fmt.tails FP.Core.b64 = 4503599627370496 := rfl
theorem b_e : FP.Core.Fmt.exps FP.Core.b64 = 2048 := rfl
theorem b_q : FP.Core.Fmt.qmin FP.Core.b64 = -1074 := rfl
theorem b_Q : FP.Core.Fmt.qmax FP.Core.b64 = 971 := rfl
theorem b_p : 2 ^ FP.Core.b64.p = 9007199254740992 := rfl
theorem b_1 : ((FP.Core.b64.p : Nat) : Int) - 1 = 52 := rfl
def nb (c : Nat) (q : Int) : Nat := ((q + 1074).toNat + 1) * 4503599627370496 + (c - 4503599627370496)
def ND (c : Nat) (q : Int) : UInt64 := UInt64.ofNat (nb c q)
abbrev NC (c : Nat) : Prop := 4503599627370496 ≤ c ∧ c < 9007199254740992
abbrev NQ (q : Int) : Prop := -500 ≤ q ∧ q ≤ 500
section
variable {c d : Nat} {q e : Int}
theorem nb_lt (hc : NC c) (hq : NQ q) : nb c q < 9223372036854775808 := by unfold nb; omega
theorem ND_n (hc : NC c) (hq : NQ q) : (ND c q).toNat = nb c q := by
  have h := nb_lt hc hq
  unfold ND
  exact UInt64.toNat_ofNat_of_lt' (show nb c q < 18446744073709551616 by omega)
theorem dec_n (hc : NC c) (hq : NQ q) : FP.Core.decode FP.Core.b64 (nb c q) = .fin false c q := by
  have h1 : nb c q / 4503599627370496 = (q + 1074).toNat + 1 := by unfold nb; omega
  have h2 : nb c q % 4503599627370496 = c - 4503599627370496 := by unfold nb; omega
  unfold FP.Core.decode FP.Core.fieldE FP.Core.fieldT FP.Core.fieldS
  rw [b_t, b_e, b_q, h1, h2]
  have e1 : ((q + 1074).toNat + 1) % 2048 = (q + 1074).toNat + 1 := by omega
  have e2 : ((q + 1074).toNat + 1) / 2048 = 0 := by omega
  rw [e1, e2, if_neg (by omega), if_neg (by omega), show 4503599627370496 + (c - 4503599627370496) = c by omega, show -1074 + ((((q + 1074).toNat + 1 : Nat) : Int) - 1) = q by omega]
  rfl
theorem dec_N (hc : NC c) (hq : NQ q) : FP.Core.decode FP.Core.b64 (ND c q).toNat = .fin false c q := by rw [ND_n hc hq, dec_n hc hq]
theorem enc_n (hc : NC c) (hq : NQ q) : FP.Core.encode FP.Core.b64 (.fin false c q) = nb c q := by
  show (if c < FP.Core.Fmt.tails FP.Core.b64 then FP.Core.assemble FP.Core.b64 false 0 c else FP.Core.assemble FP.Core.b64 false ((q - FP.Core.Fmt.qmin FP.Core.b64).toNat + 1) (c - FP.Core.Fmt.tails FP.Core.b64)) = nb c q
  unfold FP.Core.assemble
  rw [b_t, b_e, b_q, if_neg (by omega), show q - -1074 = q + 1074 by omega, show Bool.toNat false = 0 from rfl]
  unfold nb
  omega
theorem enc_0 : FP.Core.encode FP.Core.b64 (.fin false 0 (FP.Core.Fmt.qmin FP.Core.b64)) = 0 := by decide +kernel
theorem set_n (hc : 4503599627370496 ≤ c ∧ c ≤ 9007199254740992) (hq : NQ q) : ∃ c' q', FP.Core.settle FP.Core.b64 false c q = .fin false c' q' ∧ NC c' ∧ (q' = q ∨ q' = q + 1) ∧ (c < 9007199254740992 → c' = c ∧ q' = q) := by
  unfold FP.Core.settle FP.Core.bound
  rw [b_p, b_Q, b_t]
  by_cases h : c < 9007199254740992
  · rw [if_pos h, if_pos (by omega)]
    exact ⟨c, q, rfl, ⟨hc.1, h⟩, Or.inl rfl, fun _ => ⟨rfl, rfl⟩⟩
  · rw [if_neg h, if_pos (by omega)]
    exact ⟨4503599627370496, q + 1, rfl, ⟨by decide, by decide⟩, Or.inr rfl, fun z => absurd z h⟩
theorem lg_e {n k : Nat} (h1 : 2 ^ k ≤ n) (h2 : n < 2 ^ (k + 1)) : n.log2 = k := (Nat.log2_eq_iff (by have := Nat.two_pow_pos k; omega)).mpr ⟨h1, h2⟩
theorem lg_52 (hc : NC c) : c.log2 = 52 := lg_e hc.1 hc.2
theorem quan (num den : Nat) (e L : Int) (hL : FP.Core.leading num den = L) (hq : NQ (L + e - 52)) : FP.Core.quantum FP.Core.b64 num den e = L + e - 52 := by
  unfold FP.Core.quantum
  rw [hL, b_q, b_1]
  omega
theorem rr_n {num den : Nat} {L : Int} (hn : num ≠ 0) (hL : FP.Core.leading num den = L) (hq : NQ (L + e - 52)) : FP.Core.roundRatio FP.Core.b64 false num den e = FP.Core.settle FP.Core.b64 false (FP.Core.nearest (FP.Core.unitsNum num e (L + e - 52)) (FP.Core.unitsDen den e (L + e - 52))) (L + e - 52) := by
  unfold FP.Core.roundRatio FP.Core.roundAt
  rw [if_neg hn, quan num den e L hL hq]
theorem rr_0 {den : Nat} : FP.Core.roundRatio FP.Core.b64 false 0 den e = .fin false 0 (FP.Core.Fmt.qmin FP.Core.b64) := if_pos rfl
theorem near_1 {n : Nat} : FP.Core.nearest n 1 = n := by
  unfold FP.Core.nearest
  rw [if_pos (by omega)]
  omega
theorem near_m {n b : Nat} (hb : 0 < b) : FP.Core.nearest (n * b) b = n := by
  unfold FP.Core.nearest
  rw [Nat.mul_mod_left, if_pos (by omega), Nat.mul_div_cancel _ hb]
theorem near_b {a b M : Nat} (hb : 0 < b) (h1 : M * b ≤ a) (h2 : a < 2 * M * b) : M ≤ FP.Core.nearest a b ∧ FP.Core.nearest a b ≤ 2 * M := by
  have h3 : M ≤ a / b := (Nat.le_div_iff_mul_le hb).mpr h1
  have h4 : a / b < 2 * M := (Nat.div_lt_iff_lt_mul hb).mpr h2
  unfold FP.Core.nearest
  split
  · omega
  · split <;> omega
/-- whole numbers of up to 53 digits -/
theorem lead_1 {y : Nat} (hy : 0 < y) : FP.Core.leading y 1 = (y.log2 : Int) := by
  unfold FP.Core.leading
  rw [show Nat.log2 1 = 0 from rfl]
  have h := Nat.log2_self_le (show y ≠ 0 by omega)
  dsimp only
  rw [show ((y.log2 : Int) - ((0 : Nat) : Int)) = (y.log2 : Int) by omega, show ((y.log2 : Int)).toNat = y.log2 by omega, show (-(y.log2 : Int)).toNat = 0 by omega, if_pos (by omega)]
theorem int_n {y : Nat} (hy : 0 < y ∧ y < 9007199254740992) (he : -100 ≤ e ∧ e ≤ 100) : NC (y * 2 ^ (52 - y.log2)) ∧ FP.Core.roundRatio FP.Core.b64 false y 1 e = .fin false (y * 2 ^ (52 - y.log2)) ((y.log2 : Int) + e - 52) ∧ y.log2 ≤ 52 := by
  have h1 := Nat.log2_self_le (show y ≠ 0 by omega)
  have h2 := @Nat.lt_log2_self y
  have h3 : y.log2 ≤ 52 := by
    have : y.log2 < 53 := (Nat.log2_lt (show y ≠ 0 by omega)).mpr hy.2
    omega
  have p1 : 2 ^ y.log2 * 2 ^ (52 - y.log2) = 4503599627370496 := by
    rw [← Nat.pow_add, show y.log2 + (52 - y.log2) = 52 by omega]
  have p2 : 2 ^ (y.log2 + 1) * 2 ^ (52 - y.log2) = 9007199254740992 := by
    rw [← Nat.pow_add, show y.log2 + 1 + (52 - y.log2) = 53 by omega]
  have pp := Nat.two_pow_pos (52 - y.log2)
  have q1 := Nat.mul_le_mul_right (2 ^ (52 - y.log2)) h1
  have q2 := Nat.mul_lt_mul_of_pos_right h2 pp
  rw [p1] at q1
  rw [p2] at q2
  refine ⟨⟨q1, q2⟩, ?_, h3⟩
  rw [rr_n (by omega) (lead_1 hy.1) (by omega)]
  unfold FP.Core.unitsNum FP.Core.unitsDen
  rw [show (e - ((y.log2 : Int) + e - 52)).toNat = 52 - y.log2 by omega, show ((y.log2 : Int) + e - 52 - e).toNat = 0 by omega, Nat.pow_zero, Nat.mul_one, near_1]
  obtain ⟨c', q', e1, -, -, h4⟩ := set_n (c := y * 2 ^ (52 - y.log2)) (q := (y.log2 : Int) + e - 52) ⟨q1, by omega⟩ (by omega)
  obtain ⟨rfl, rfl⟩ := h4 q2
  exact e1
/-- c * 2^52, which is c -/
theorem big_n (hc : NC c) (he : -300 ≤ e ∧ e ≤ 300) : FP.Core.roundRatio FP.Core.b64 false (c * 4503599627370496) 1 e = .fin false c (e + 52) := by
  have hl : (c * 4503599627370496).log2 = 104 := lg_e (show 20282409603651670423947251286016 ≤ c * 4503599627370496 by omega) (show c * 4503599627370496 < 40564819207303340847894502572032 by omega)
  have h0 := lead_1 (y := c * 4503599627370496) (by omega)
  rw [hl] at h0
  rw [rr_n (by omega) h0 (by omega)]
  unfold FP.Core.unitsNum FP.Core.unitsDen
  rw [show (e - (((104 : Nat) : Int) + e - 52)).toNat = 0 by omega, show (((104 : Nat) : Int) + e - 52 - e).toNat = 52 by omega, Nat.pow_zero, Nat.mul_one, show 1 * 2 ^ 52 = 4503599627370496 from rfl, near_m (by decide), show ((104 : Nat) : Int) + e - 52 = e + 52 by omega]
  obtain ⟨c', q', e1, -, -, h4⟩ := set_n (c := c) (q := e + 52) ⟨hc.1, by omega⟩ (by omega)
  obtain ⟨rfl, rfl⟩ := h4 hc.2
  exact e1
theorem lead_cc (hc : NC c) (hd : NC d) : FP.Core.leading c d = if d ≤ c then 0 else -1 := by
  unfold FP.Core.leading
  rw [lg_52 hc, lg_52 hd]
  dsimp only
  rw [show (((52 : Nat) : Int) - ((52 : Nat) : Int)) = 0 from rfl]
  by_cases h : d ≤ c
  · rw [if_pos h]
    exact if_pos (show d * 1 ≤ c * 1 by omega)
  · rw [if_neg h]
    exact (if_neg (show ¬ d * 1 ≤ c * 1 by omega)).trans rfl
/-- halves -/
theorem half_n (hc : NC c) (hq : -100 ≤ q ∧ q ≤ 100) : FP.Core.roundRatio FP.Core.b64 false c 4503599627370496 (q + 51) = .fin false c (q - 1) := by
  have h0 := lead_cc hc (d := 4503599627370496) ⟨by decide, by decide⟩
  rw [if_pos hc.1] at h0
  rw [rr_n (by omega) h0 (by omega)]
  unfold FP.Core.unitsNum FP.Core.unitsDen
  rw [show (q + 51 - (0 + (q + 51) - 52)).toNat = 52 by omega, show (0 + (q + 51) - 52 - (q + 51)).toNat = 0 by omega, Nat.pow_zero, Nat.mul_one, show (2 : Nat) ^ 52 = 4503599627370496 from rfl, near_m (by decide), show 0 + (q + 51) - 52 = q - 1 by omega]
  obtain ⟨c', q', e1, -, -, h4⟩ := set_n (c := c) (q := q - 1) ⟨hc.1, by omega⟩ (by omega)
  obtain ⟨rfl, rfl⟩ := h4 hc.2
  exact e1
/-- quotients -/
theorem quo_n (hc : NC c) (hd : NC d) (he : -100 ≤ e ∧ e ≤ 100) : ∃ c' q', FP.Core.roundRatio FP.Core.b64 false c d e = .fin false c' q' ∧ NC c' ∧ e - 53 ≤ q' ∧ q' ≤ e - 51 := by
  have h0 := lead_cc hc hd
  by_cases h : d ≤ c
  · rw [if_pos h] at h0
    rw [rr_n (by omega) h0 (by omega)]
    unfold FP.Core.unitsNum FP.Core.unitsDen
    rw [show (e - (0 + e - 52)).toNat = 52 by omega, show (0 + e - 52 - e).toNat = 0 by omega, Nat.pow_zero, Nat.mul_one, show (2 : Nat) ^ 52 = 4503599627370496 from rfl]
    have hn := near_b (a := c * 4503599627370496) (b := d) (M := 4503599627370496) (by omega) (by omega) (by omega)
    obtain ⟨c', q', e1, h1, h2, -⟩ := set_n (c := FP.Core.nearest (c * 4503599627370496) d) (q := 0 + e - 52) (by omega) (by omega)
    exact ⟨c', q', e1, h1, by omega, by omega⟩
  · rw [if_neg h] at h0
    rw [rr_n (by omega) h0 (by omega)]
    unfold FP.Core.unitsNum FP.Core.unitsDen
    rw [show (e - (-1 + e - 52)).toNat = 53 by omega, show (-1 + e - 52 - e).toNat = 0 by omega, Nat.pow_zero, Nat.mul_one, show (2 : Nat) ^ 53 = 9007199254740992 from rfl]
    have hn := near_b (a := c * 9007199254740992) (b := d) (M := 4503599627370496) (by omega) (by omega) (by omega)
    obtain ⟨c', q', e1, h1, h2, -⟩ := set_n (c := FP.Core.nearest (c * 9007199254740992) d) (q := -1 + e - 52) (by omega) (by omega)
    exact ⟨c', q', e1, h1, by omega, by omega⟩
/-! on the bits -/
theorem nN (hc : NC c) (hq : NQ q) : vf_n64 (ND c q) := by
  unfold vf_n64
  rw [UInt64.le_iff_toNat_le, UInt64.toNat_and, ND_n hc hq]
  show nb c q &&& 2 ^ 63 - 1 ≤ 9218868437227405312
  rw [Nat.and_two_pow_sub_one_eq_mod]
  have h : nb c q < 2 ^ 63 := nb_lt hc hq
  rw [Nat.mod_eq_of_lt h]
  unfold nb
  omega
theorem n0 : vf_n64 (UInt64.ofNat 0) := by unfold vf_n64; decide +kernel
theorem l2d_n {y : Nat} (hy : 0 < y ∧ y < 100000000) : FP.l2d (i64 (y : Int)) = ND (y * 2 ^ (52 - y.log2)) ((y.log2 : Int) - 52) ∧ NC (y * 2 ^ (52 - y.log2)) ∧ y.log2 ≤ 26 := by
  have h := int_n (y := y) (e := 0) ⟨hy.1, by omega⟩ (by omega)
  have hl : y.log2 ≤ 26 := by
    have : y.log2 < 27 := (Nat.log2_lt (show y ≠ 0 by omega)).mpr (show y < 134217728 by omega)
    omega
  refine ⟨?_, h.1, hl⟩
  show UInt64.ofNat (FP.Core.encode FP.Core.b64 (FP.Core.roundRatio FP.Core.b64 (decide ((i64 (y : Int)).toInt < 0)) ((i64 (y : Int)).toInt).natAbs 1 0)) = _
  rw [i64_t (by omega), show decide (((y : Nat) : Int) < 0) = false from decide_eq_false (by omega), show ((y : Nat) : Int).natAbs = y by omega, h.2.1, show (y.log2 : Int) + 0 - 52 = (y.log2 : Int) - 52 by omega, enc_n h.1 (by omega)]
  rfl
theorem l2d_0 : FP.l2d (i64 0) = UInt64.ofNat 0 := by decide +kernel
theorem div_q (hc : NC c) (hd : NC d) {r : Int} (hq : -60 ≤ q ∧ q ≤ 0) (hr : -60 ≤ r ∧ r ≤ 0) : ∃ c' q', FP.ddiv (ND c q) (ND d r) = ND c' q' ∧ NC c' ∧ q - r - 53 ≤ q' ∧ q' ≤ q - r - 51 := by
  obtain ⟨c', q', e1, h1, h2, h3⟩ := quo_n hc hd (e := q - r) (by omega)
  refine ⟨c', q', ?_, h1, h2, h3⟩
  show UInt64.ofNat (FP.Core.div FP.Core.b64 (ND c q).toNat (ND d r).toNat) = _
  unfold FP.Core.div
  rw [dec_N hc (by omega), dec_N hd (by omega)]
  show UInt64.ofNat (FP.Core.encode FP.Core.b64 (if d = 0 then (if c = 0 then .nan else .inf (false != false)) else FP.Core.roundRatio FP.Core.b64 (false != false) c d (q - r))) = _
  rw [if_neg (by omega), show (false != false) = false from rfl, e1, enc_n h1 (by omega)]
  rfl
theorem div_0 (hd : NC d) (hq : NQ q) : FP.ddiv (UInt64.ofNat 0) (ND d q) = UInt64.ofNat 0 := by
  show UInt64.ofNat (FP.Core.div FP.Core.b64 0 (ND d q).toNat) = _
  unfold FP.Core.div
  rw [dec_N hd hq, show FP.Core.decode FP.Core.b64 0 = .fin false 0 (-1074) by decide +kernel]
  show UInt64.ofNat (FP.Core.encode FP.Core.b64 (if d = 0 then (if 0 = 0 then .nan else .inf (false != false)) else FP.Core.roundRatio FP.Core.b64 (false != false) 0 d (-1074 - q))) = _
  rw [if_neg (by omega), show (false != false) = false from rfl, rr_0, enc_0]
theorem dec_2 : FP.Core.decode FP.Core.b64 (4611686018427387904 : UInt64).toNat = .fin false 4503599627370496 (-51) := by decide +kernel
theorem dec_1 : FP.Core.decode FP.Core.b64 (FP.dconst1).toNat = .fin false 4503599627370496 (-52) := by decide +kernel
theorem dec_0 : FP.Core.decode FP.Core.b64 (FP.dconst0).toNat = .fin false 0 (-1074) := by decide +kernel
theorem dec_b : FP.Core.decode FP.Core.b64 (4841369599423283200 : UInt64).toNat = .fin false 4503599627370496 0 := by decide +kernel
theorem div_2 (hc : NC c) (hq : -100 ≤ q ∧ q ≤ 100) : FP.ddiv (ND c q) (4611686018427387904 : UInt64) = ND c (q - 1) := by
  show UInt64.ofNat (FP.Core.div FP.Core.b64 (ND c q).toNat (4611686018427387904 : UInt64).toNat) = _
  unfold FP.Core.div
  rw [dec_N hc (by omega), dec_2]
  show UInt64.ofNat (FP.Core.encode FP.Core.b64 (if 4503599627370496 = 0 then (if c = 0 then .nan else .inf (false != false)) else FP.Core.roundRatio FP.Core.b64 (false != false) c 4503599627370496 (q - -51))) = _
  rw [if_neg (by omega), show (false != false) = false from rfl, show q - -51 = q + 51 by omega, half_n hc hq, enc_n hc (by omega)]
  rfl
theorem mul_k (hc : NC c) {r : Int} (hqr : -300 ≤ q + r ∧ q + r ≤ 300) : FP.Core.round FP.Core.b64 (FP.Core.exactProduct (.fin false c q) (.fin false 4503599627370496 r)) = .fin false c (q + r + 52) := by
  show FP.Core.roundRatio FP.Core.b64 (false != false) (c * 4503599627370496) 1 (q + r) = _
  rw [show (false != false) = false from rfl, big_n hc hqr]
theorem mul_2 (hc : NC c) (hq : -100 ≤ q ∧ q ≤ 100) : FP.dmul (ND c q) (4611686018427387904 : UInt64) = ND c (q + 1) := by
  show UInt64.ofNat (FP.Core.mul FP.Core.b64 (ND c q).toNat (4611686018427387904 : UInt64).toNat) = _
  unfold FP.Core.mul
  rw [dec_N hc (by omega), dec_2, mul_k hc (by omega), show q + -51 + 52 = q + 1 by omega, enc_n hc (by omega)]
  rfl
/-! compared -/
theorem ord_2 (hc : NC c) {r : Int} (hq : -100 ≤ q ∧ q ≤ 100) (hr : -60 ≤ r ∧ r ≤ 0) : (r ≤ q → ¬ FP.Core.order (.fin false c q) (.fin false 4503599627370496 r) = some .lt ∧ FP.Core.order (.fin false c q) (.fin false 4503599627370496 r) ≠ none) ∧ (q < r → FP.Core.order (.fin false c q) (.fin false 4503599627370496 r) = some .lt) := by
  have e0 : FP.Core.order (.fin false c q) (.fin false 4503599627370496 r) = some (compare ((FP.Core.inUnits c q (min q r) : Nat) : Int) ((FP.Core.inUnits 4503599627370496 r (min q r) : Nat) : Int)) := rfl
  rw [e0]
  unfold FP.Core.inUnits
  refine ⟨fun h => ⟨fun z => ?_, fun z => by cases z⟩, fun h => ?_⟩
  · have z2 := Int.compare_eq_lt.mp (Option.some.inj z)
    rw [show (r - min q r).toNat = 0 by omega, Nat.pow_zero, Nat.mul_one] at z2
    have p := Nat.two_pow_pos (q - min q r).toNat
    have q1 : c * 1 ≤ c * 2 ^ (q - min q r).toNat := Nat.mul_le_mul_left c p
    omega
  · have p := Nat.two_pow_pos (r - min q r - 1).toNat
    rw [show (q - min q r).toNat = 0 by omega, Nat.pow_zero, Nat.mul_one, show (r - min q r).toNat = (r - min q r - 1).toNat + 1 by omega, Nat.pow_succ]
    have q1 : 4503599627370496 * 1 ≤ 4503599627370496 * 2 ^ (r - min q r - 1).toNat := Nat.mul_le_mul_left _ p
    refine congrArg some (Int.compare_eq_lt.mpr ?_)
    rw [← Nat.mul_assoc]
    omega
theorem cv_l : ∀ o : Ordering, (Op.cmpValue (some o) .l < 0 ↔ o = .lt) ∧ (Op.cmpValue (some o) .g < 0 ↔ o = .lt) := fun o => by cases o <;> decide
theorem cmp_2l (hc : NC c) (hq : -100 ≤ q ∧ q ≤ 100) : Op.cmpValue (FP.dcmp (ND c q) (4611686018427387904 : UInt64)) .l < 0 ↔ q < -51 := by
  have e0 : FP.dcmp (ND c q) (4611686018427387904 : UInt64) = FP.Core.order (.fin false c q) (.fin false 4503599627370496 (-51)) := by
    show FP.Core.order (FP.Core.decode FP.Core.b64 (ND c q).toNat) (FP.Core.decode FP.Core.b64 (4611686018427387904 : UInt64).toNat) = _
    rw [dec_N hc (by omega), dec_2]
  have h := ord_2 hc (r := -51) hq (by omega)
  rw [e0]
  by_cases y : q < -51
  · rw [h.2 y]
    exact ⟨fun _ => y, fun _ => (cv_l .lt).1.mpr rfl⟩
  · have h1 := h.1 (by omega)
    obtain ⟨o, ho⟩ := Option.ne_none_iff_exists'.mp h1.2
    rw [ho] at h1 ⊢
    exact ⟨fun z => absurd (congrArg some ((cv_l o).1.mp z)) h1.1, fun z => absurd z y⟩
theorem cmp_1g (hc : NC c) (hq : -100 ≤ q ∧ q ≤ 100) : Op.cmpValue (FP.dcmp (ND c q) FP.dconst1) .g < 0 ↔ q < -52 := by
  have e0 : FP.dcmp (ND c q) FP.dconst1 = FP.Core.order (.fin false c q) (.fin false 4503599627370496 (-52)) := by
    show FP.Core.order (FP.Core.decode FP.Core.b64 (ND c q).toNat) (FP.Core.decode FP.Core.b64 (FP.dconst1).toNat) = _
    rw [dec_N hc (by omega), dec_1]
  have h := ord_2 hc (r := -52) hq (by omega)
  rw [e0]
  by_cases y : q < -52
  · rw [h.2 y]
    exact ⟨fun _ => y, fun _ => (cv_l .lt).2.mpr rfl⟩
  · have h1 := h.1 (by omega)
    obtain ⟨o, ho⟩ := Option.ne_none_iff_exists'.mp h1.2
    rw [ho] at h1 ⊢
    exact ⟨fun z => absurd (congrArg some ((cv_l o).2.mp z)) h1.1, fun z => absurd z y⟩
theorem cmp_0 (hc : NC c) (hq : -100 ≤ q ∧ q ≤ 100) : FP.dcmp (ND c q) FP.dconst0 = some .gt := by
  have e0 : FP.dcmp (ND c q) FP.dconst0 = FP.Core.order (.fin false c q) (.fin false 0 (-1074)) := by
    show FP.Core.order (FP.Core.decode FP.Core.b64 (ND c q).toNat) (FP.Core.decode FP.Core.b64 (FP.dconst0).toNat) = _
    rw [dec_N hc (by omega), dec_0]
  rw [e0]
  have e1 : FP.Core.order (.fin false c q) (.fin false 0 (-1074)) = some (compare ((FP.Core.inUnits c q (min q (-1074)) : Nat) : Int) ((FP.Core.inUnits 0 (-1074) (min q (-1074)) : Nat) : Int)) := rfl
  rw [e1]
  unfold FP.Core.inUnits
  refine congrArg some (Int.compare_eq_gt.mpr ?_)
  have p := Nat.two_pow_pos (q - min q (-1074)).toNat
  have q1 : c * 1 ≤ c * 2 ^ (q - min q (-1074)).toNat := Nat.mul_le_mul_left c p
  rw [Nat.zero_mul]
  omega
theorem cmp_s (hc : NC c) (hq : NQ q) : FP.dcmp (ND c q) (ND c q) = some .eq := by
  show FP.Core.order (FP.Core.decode FP.Core.b64 (ND c q).toNat) (FP.Core.decode FP.Core.b64 (ND c q).toNat) = _
  rw [dec_N hc hq]
  exact congrArg some (Int.compare_eq_eq.mpr rfl)
/-- the end: less 1, times 2^52: no NaN -/
theorem end_n (hc : NC c) : vf_n64 (FP.dsub (ND c (-52)) FP.dconst1) ∧ vf_n64 (FP.dmul (FP.dsub (ND c (-52)) FP.dconst1) (4841369599423283200 : UInt64)) := by
  obtain ⟨y, hy⟩ : ∃ y, c = y + 4503599627370496 := ⟨c - 4503599627370496, by omega⟩
  have hy2 : y < 4503599627370496 := by omega
  have e0 : FP.dsub (ND c (-52)) FP.dconst1 = UInt64.ofNat (FP.Core.encode FP.Core.b64 (FP.Core.roundRatio FP.Core.b64 false y 1 (-52))) := by
    show UInt64.ofNat (FP.Core.sub FP.Core.b64 (ND c (-52)).toNat (FP.dconst1).toNat) = _
    unfold FP.Core.sub
    rw [dec_N hc (by omega), dec_1]
    have e1 : FP.Core.sumUnits false c (-52) true 4503599627370496 (-52) (-52) = (y : Int) := by
      show ((c * 2 ^ 0 : Nat) : Int) + -((4503599627370496 * 2 ^ 0 : Nat) : Int) = _
      rw [Nat.pow_zero, Nat.mul_one]
      omega
    have e2 : FP.Core.sumSign false true (y : Int) = false := by
      unfold FP.Core.sumSign
      split
      · rfl
      · exact decide_eq_false (by omega)
    have e3 : FP.Core.round FP.Core.b64 (FP.Core.exactSum (.fin false c (-52)) (FP.Core.negate (.fin false 4503599627370496 (-52)))) = FP.Core.roundRatio FP.Core.b64 (FP.Core.sumSign false true (FP.Core.sumUnits false c (-52) true 4503599627370496 (-52) (-52))) (FP.Core.sumUnits false c (-52) true 4503599627370496 (-52) (-52)).natAbs 1 (-52) := rfl
    rw [e3, e1, e2]
    rfl
  rw [e0]
  by_cases h : y = 0
  · rw [h, rr_0, enc_0]
    exact ⟨n0, by unfold vf_n64; decide +kernel⟩
  · obtain ⟨h1, h2, h3⟩ := int_n (y := y) (e := -52) (by omega) (by omega)
    rw [h2, enc_n h1 (by omega)]
    have e3 : (y.log2 : Int) + -52 - 52 = (y.log2 : Int) - 104 := by omega
    rw [e3]
    refine ⟨nN h1 (by omega), ?_⟩
    have e4 : FP.dmul (ND (y * 2 ^ (52 - y.log2)) ((y.log2 : Int) - 104)) (4841369599423283200 : UInt64) = ND (y * 2 ^ (52 - y.log2)) ((y.log2 : Int) - 104 + 0 + 52) := by
      show UInt64.ofNat (FP.Core.mul FP.Core.b64 (ND _ _).toNat (4841369599423283200 : UInt64).toNat) = _
      unfold FP.Core.mul
      rw [dec_N h1 (by omega), dec_b, mul_k h1 (by omega), enc_n h1 (by omega)]
      rfl
    show vf_n64 (FP.dmul (ND (y * 2 ^ (52 - y.log2)) ((y.log2 : Int) - 104)) (4841369599423283200 : UInt64))
    rw [e4]
    exact nN h1 (by omega)
end
theorem mul_1 {c : Nat} {q : Int} (hc : NC c) (hq : -100 ≤ q ∧ q ≤ 100) : FP.dmul (ND c q) FP.dconst1 = ND c q := by
  show UInt64.ofNat (FP.Core.mul FP.Core.b64 (ND c q).toNat (FP.dconst1).toNat) = _
  unfold FP.Core.mul
  rw [dec_N hc (by omega), dec_1, mul_k hc (by omega), show q + -52 + 52 = q by omega, enc_n hc (by omega)]
  rfl
theorem mul_01 : FP.dmul (UInt64.ofNat 0) FP.dconst1 = UInt64.ofNat 0 := by decide +kernel
/-- the value of a basis as a double -/
def vdZ (n d : Int) : UInt64 := FP.ddiv (FP.l2d (i64 n)) (FP.l2d (i64 d))
theorem vd_s {n d : Int} (hn : 0 ≤ n ∧ n < 100000000) (hd : 0 < d ∧ d ≤ 157464) : vf_n64 (vdZ n d) ∧ FP.dcmp (vdZ n d) (vdZ n d) = some .eq ∧ vf_n64 (FP.l2d (i64 n)) ∧ FP.dmul (FP.l2d (i64 n)) FP.dconst1 = FP.l2d (i64 n) := by
  obtain ⟨x, rfl⟩ : ∃ x : Nat, n = x := ⟨n.toNat, by omega⟩
  obtain ⟨y, rfl⟩ : ∃ y : Nat, d = y := ⟨d.toNat, by omega⟩
  obtain ⟨f1, f2, f3⟩ := l2d_n (y := y) (by omega)
  have f4 : y.log2 ≤ 17 := by
    have : y.log2 < 18 := (Nat.log2_lt (show y ≠ 0 by omega)).mpr (show y < 262144 by omega)
    omega
  unfold vdZ
  by_cases h : x = 0
  · subst h
    rw [show ((0 : Nat) : Int) = 0 from rfl, l2d_0, f1, div_0 f2 (by omega)]
    exact ⟨n0, by decide +kernel, n0, mul_01⟩
  · obtain ⟨g1, g2, g3⟩ := l2d_n (y := x) (by omega)
    obtain ⟨c', q', e1, h1, h2, h3⟩ := div_q g2 f2 (q := (x.log2 : Int) - 52) (r := (y.log2 : Int) - 52) (by omega) (by omega)
    rw [g1, f1, e1]
    exact ⟨nN h1 (by omega), cmp_s h1 (by omega), nN g2 (by omega), mul_1 g2 (by omega)⟩
end FX
