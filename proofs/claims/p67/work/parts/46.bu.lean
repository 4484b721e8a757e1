section BU
variable {d m : Nat} {z : St} {K : Int}
/-! the buffer -/
def wb (z : St) (len : Int) (B : Int → Int) : St := (z.1, z.2.1, z.2.2.1, z.2.2.2.1, z.2.2.2.2.1, len, B)
theorem CI_b {c c' : W0} {len : Int} {B : Int → Int} (h : CI d z c) (e : ∀ q, d ≤ q → q < d + 105 → q ≠ d + 29 → q ≠ d + 31 → c' q = c q) (h0 : c' (d + 29) 0 = len) (h1 : ∀ k, 0 ≤ k → k < len → c' (d + 31) k = B k) : CI d (wb z len B) c' := by
  obtain ⟨k1, k2, k3, -, -⟩ := h
  exact ⟨RepS_fr k1 (fun q a b => e q (by omega) (by omega) (by omega) (by omega)), SvC_fr k2 (by rw [e d (by omega) (by omega) (by omega) (by omega)]) (e _ (by omega) (by omega) (by omega) (by omega)) (fun q a b => e q (by omega) (by omega) (by omega) (by omega)), ⟨by rw [e d (by omega) (by omega) (by omega) (by omega)]; exact k3.1, fun z => RepS_fr (k3.2 z) (fun q a b => e q (by omega) (by omega) (by omega) (by omega))⟩, h0, h1⟩
theorem MI_b {c c' : W0} {len : Int} {B : Int → Int} (h : MI m z c) (e : ∀ q, q ≠ m → q ≠ m + 5 → c' q = c q) (i4 : c' m 4 = c m 4) (i6 : c' m 6 = c m 6) (h0 : c' m 8 = len) (h1 : ∀ k, 0 ≤ k → k < len → c' (m + 5) k = B k) : MI m (wb z len B) c' := by
  obtain ⟨k1, k2, k3, -, -⟩ := h
  refine ⟨by rw [e _ (by omega) (by omega)]; exact k1, ⟨by rw [i4]; exact k2.1, fun k i a b a2 b2 => by rw [e _ (by omega) (by omega)]; exact k2.2 k i a b a2 b2⟩, ⟨by rw [i6]; exact k3.1, fun y i a b => by rw [e _ (by omega) (by omega)]; exact k3.2 y i a b⟩, h0, h1⟩
theorem LI_b {len : Int} {B : Int → Int} (h : LI K z) (hl : 0 ≤ len ∧ len ≤ 60) (hB : ∀ k, 0 ≤ k → k < len → 33 ≤ B k ∧ B k ≤ 126) : LI K (wb z len B) := ⟨h.1, h.2.1, h.2.2.1, h.2.2.2.1, h.2.2.2.2.1, hl, hB⟩
def apS (z : St) (p : Int) : St := wb z (z.2.2.2.2.2.1 + 1) (updZ z.2.2.2.2.2.2 z.2.2.2.2.2.1 p)
theorem ap_li (h : LI K z) {p : Int} (hp : 33 ≤ p ∧ p ≤ 126) (hl : z.2.2.2.2.2.1 < 60) : LI K (apS z p) := by
  obtain ⟨h1, h2⟩ := h.2.2.2.2.2
  refine LI_b h (by omega) (fun k a b => ?_)
  unfold updZ
  split
  · exact hp
  · exact h2 k a (by omega)
theorem c8_append (hL : LI K z) {p : Int} (hp : R32 p) : ((33 ≤ p ∧ p ≤ 126) ∧ z.2.2.2.2.2.1 < 60 → ClX d z (f_X8_append d p) 0 (z.2.2.2.2.2.1 + 1) (apS z p)) ∧ (¬ (33 ≤ p ∧ p ≤ 126) → ClX d z (f_X8_append d p) 1 0 z) ∧ ((33 ≤ p ∧ p ≤ 126) ∧ ¬ z.2.2.2.2.2.1 < 60 → ClX d z (f_X8_append d p) 2 0 z) := by
  have hl := hL.2.2.2.2.2.1
  refine ⟨fun h c hC => ?_, fun h => ClX_v (fun c hC => ?_), fun h => ClX_v (fun c hC => ?_)⟩
  · have e0 := hC.2.2.2.1
    unfold f_X8_append f_X7_add
    simp only [jn, sto]
    rw [gd_t hp, bq_n (by omega), gd_t hp, bq_p h.1.2, e0, gd_t (by omega), bq_p h.2, gd_t hp, gd_t (by omega), cl_s, upc_s, updZ_s, upc_n (show d + 29 ≠ d + 29 + 2 by omega), e0]
    refine ⟨_, rfl, fun q hq => by rw [upc_n (by omega), upc_n (by omega)], CI_b hC (fun q a b x y => by rw [upc_n x, upc_n (by omega)]) (by rw [upc_s, updZ_s]) (fun k a b => ?_)⟩
    rw [upc_n (by omega)]
    show upc c (d + 31) (updZ (c (d + 31)) z.2.2.2.2.2.1 p) (d + 31) k = _
    rw [upc_s]
    by_cases y : k = z.2.2.2.2.2.1
    · rw [y, updZ_s, updZ_s]
    · rw [updZ_n y, updZ_n y]
      exact hC.2.2.2.2 k a (by omega)
  · unfold f_X8_append
    simp only [jn]
    rw [gd_t hp]
    by_cases y : p < 33
    · rw [bq_p y]
    · rw [bq_n y, gd_t hp, bq_n (by omega)]
  · have e0 := hC.2.2.2.1
    unfold f_X8_append
    simp only [jn]
    rw [gd_t hp, bq_n (by omega), gd_t hp, bq_p h.1.2, e0, gd_t (by omega), bq_n h.2]
theorem m9_append (hL : LI K z) {p : Int} (hp : R32 p) : ((33 ≤ p ∧ p ≤ 126) ∧ z.2.2.2.2.2.1 < 60 → Mo m z (f_X9_append m p) 0 (z.2.2.2.2.2.1 + 1) (apS z p)) ∧ (¬ (33 ≤ p ∧ p ≤ 126) → Mo m z (f_X9_append m p) 1 0 z) ∧ ((33 ≤ p ∧ p ≤ 126) ∧ ¬ z.2.2.2.2.2.1 < 60 → Mo m z (f_X9_append m p) 2 0 z) := by
  have hl := hL.2.2.2.2.2.1
  obtain ⟨v, ev, hv⟩ := in9 (a := p) (b := 33) (c := 126) hp (by omega) (by omega)
  refine ⟨fun h c hM => ?_, fun h => Mo_t (fun c hM => ?_), fun h => Mo_t (fun c hM => ?_)⟩
  · have e8 := hM.2.2.2.1
    have e8' : (upc c m (updZ (c m) 0 0)) m 8 = z.2.2.2.2.2.1 := by rw [upc_s, updZ_n (by decide)]; exact e8
    unfold f_X9_append
    simp only [jn]
    rw [ev, cv_s, gd_t (by omega), bq_n (by omega), e8, gd_t (by omega), bq_n (by omega), holds9 (by omega), cl_s, if_pos rfl, gd_t (by omega), bq_n (by omega), e8', gd_t (by omega)]
    simp only [sto]
    generalize hc1 : upc c m (updZ (c m) 0 0) = c1 at *
    have q1 : ∀ q, q ≠ m → c1 q = c q := fun q a => by rw [← hc1, upc_n a]
    have i1 : ∀ i, i ≠ 0 → c1 m i = c m i := fun i a => by rw [← hc1, upc_s, updZ_n a]
    have t1 : c1 m 0 = 0 := by rw [← hc1, upc_s, updZ_s]
    rw [upc_s, updZ_s, upc_n (show m ≠ m + 5 by omega), e8']
    refine ⟨_, rfl, fun q hq => by rw [upc_n (by omega), upc_n (by omega), q1 q (by omega)], MI_b hM (fun q a b => by rw [upc_n a, upc_n b, q1 q a]) (by rw [upc_s, updZ_n (by decide), i1 4 (by decide)]) (by rw [upc_s, updZ_n (by decide), i1 6 (by decide)]) (by rw [upc_s, updZ_s]) (fun k a b => ?_), by rw [upc_s, updZ_n (by decide), t1]⟩
    rw [upc_n (by omega), upc_s]
    by_cases y : k = z.2.2.2.2.2.1
    · rw [y, updZ_s, updZ_s]
    · rw [updZ_n y, updZ_n y, q1 _ (by omega)]
      exact hM.2.2.2.2 k a (by omega)
  · have hv0 : v = 0 := by omega
    unfold f_X9_append
    simp only [jn]
    rw [ev, cv_s, gd_t (by omega), bq_p hv0, holds9 (by omega), cl_s, if_neg (by omega), gd_t (by omega), bq_p rfl]
  · have e8 := hM.2.2.2.1
    unfold f_X9_append
    simp only [jn]
    rw [ev, cv_s, gd_t (by omega), bq_n (by omega), e8, gd_t (by omega), bq_p (by omega), holds9 (by omega), cl_s, if_neg (by omega), gd_t (by omega), bq_p rfl]
def clS (z : St) : St := wb z 0 z.2.2.2.2.2.2
theorem cl_li (h : LI K z) : LI K (clS z) := LI_b h (by omega) (fun k a b => by omega)
theorem c8_clearBuffer : ClI d z (f_X8_clearBuffer d) z.2.2.2.2.2.1 (clS z) := by
  intro c hC
  unfold f_X8_clearBuffer f_X7_clear
  simp only [sto]
  rw [cl_s, hC.2.2.2.1]
  exact ⟨_, rfl, fun q hq => upc_n (by omega), CI_b hC (fun q a b x y => upc_n x) (by rw [upc_s, updZ_s]) (fun k a b => by omega)⟩
theorem m9_clearBuffer : Mo m z (f_X9_clearBuffer m) 0 z.2.2.2.2.2.1 (clS z) := by
  intro c hM
  unfold f_X9_clearBuffer
  simp only [sto]
  rw [upc_s, updZ_n (by decide), hM.2.2.2.1]
  exact ⟨_, rfl, fun q hq => by rw [upc_n (by omega), upc_n (by omega)], MI_b hM (fun q a b => by rw [upc_n a, upc_n a]) (by rw [upc_s, updZ_n (by decide), updZ_n (by decide)]) (by rw [upc_s, updZ_n (by decide), updZ_n (by decide)]) (by rw [upc_s, updZ_s]) (fun k a b => by omega), by rw [upc_s, updZ_n (by decide), updZ_s]⟩
end BU
