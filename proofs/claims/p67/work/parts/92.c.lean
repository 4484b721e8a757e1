section LC
section
variable {Φ : gwC} {hb : gwHp} {M b L B : Nat} {xs : Nat → Int32} {Z : gwE} {x : Option Nat}
set_option maxRecDepth 100000 in
set_option maxHeartbeats 4000000 in
/-- the loop over the turns -/
theorem law_loop (hB : Φ.2.1 = B) (hL : L ≤ 260) (hZ : ∀ (cells slots : Nat) (lv : List (Nat × Value)) (c : W0), cells ≤ 20000 → slots ≤ 200000 → G Φ mL_law (EP (PL9 b L B xs) Z) x cells slots 241 lv [vI 1] (hp Φ hb M shA c)) : ∀ (n : Nat) (e : Int), e + n = 52 → 0 ≤ e → LK Φ hb M b L xs Z B x 23 e (200 * e) (211 + 64 * e.toNat) (9991 + 384 * e.toNat) := by
  intro n
  induction n with
  | zero =>
    intro e hn he z y c cells slots lv hz hy hzy hW hc hs hlv
    obtain ⟨c1, e1, -⟩ := L_sol ((WW_o y).s z) hz c hW
    refine gw_L ?_ hlv
    refine gw_iload dL_law_23 rfl rfl ?_
    refine gw_bipushZ dL_law_25 rfl (by decide) ?_
    refine gw_icmp_geZ (tgt := 237) dL_law_27 rfl (by decide) ⟨by omega, by omega⟩ (by decide) (fun _ => ?_) (fun q => absurd q (by omega))
    refine gw_aload_n dL_law_237 rfl rfl ?_
    refine la_isSolutionSo shA_D (by omega) (by omega) dL_law_238 e1 ?_ (by decide)
    exact hZ _ _ _ _ (by omega) (by omega)
  | succ n ih =>
    intro e hn he
    refine law_turn hB hL ⟨he, by omega⟩ (by omega) (by omega) (by omega) (by omega) ?_
    intro z y c cells slots lv hz hy hzy hW hc hs hlv
    refine gw_L ?_ hlv
    refine gw_iincZ dL_law_231 rfl rfl (by decide) ?_
    refine gw_goto (tgt := 23) dL_law_234 (by decide) ?_
    exact ih (e + 1) (by omega) (by omega) z y c _ _ _ (hz.mo (by omega)) (hy.mo (by omega)) hzy hW (by omega) (by omega) (lvL_a rfl rfl rfl rfl rfl)
end
section
variable {h : gwHp} {a n : Nat} {e o : va_E} {L L' : List va_E}
theorem hz_nil : hz h a [] = h := by
  funext q
  unfold hz
  by_cases h1 : a ≤ q
  · rw [if_pos h1]
    rfl
  · rw [if_neg h1]
theorem hz_up0 (hp : 0 < L'.length) : hz (gw_up h a e) a L' = hz h a L' := by
  have e1 := hz_two (h := h) (a := a) (L := []) (n := 0) (e := e) (L' := L') rfl hp
  rw [hz_nil] at e1
  exact e1
theorem hz_low0 (hL : L.length = n + 1) : gw_low (hz h a L) a (n + 1) := by
  refine Or.inr ⟨L[n]'(by omega), ?_⟩
  rw [show a + (n + 1 - 1) = a + n by omega]
  exact hz_at (List.getElem?_eq_getElem _)
end
set_option maxRecDepth 100000 in
theorem SL8_len {Φ : gwC} {a : Nat} : (SL8 Φ a).length = 105 := rfl
set_option maxRecDepth 100000 in
set_option maxHeartbeats 4000000 in
/-- from the entry to the loop's head -/
theorem law_start {Φ : gwC} {M b L B : Nat} {xs : Nat → Int32} {Z : gwE} (hB : Φ.2.1 = B) (hL : L ≤ 260) (hZ : ∀ (cells slots : Nat) (lv : List (Nat × Value)) (c : W0), cells ≤ 20000 → slots ≤ 200000 → G Φ mL_law (EP (PL9 b L B xs) Z) (some M) cells slots 241 lv [vI 1] (hp Φ (fun _ => none) M shA c)) : G Φ mL_law (EP (PL9 b L B xs) Z) (some M) 0 0 0 [(0, .ref b)] [] (fun _ => none) := by
  refine gw_new (M := M) (cells := 0) cl8 dL_law_0 rfl kw_35 kw_36 kw_17 dfX8 (Or.inl rfl) (Nat.le_of_ble_eq_true rfl) (Nat.le_of_ble_eq_true rfl) ?_
  refine gw_dup dL_law_3 rfl rfl ?_
  refine gw_I0 (M := M) (x' := some (M + 1)) okX8z dL_law_4 (Or.inr ⟨rfl, rfl, Or.inr ⟨_, gw_us⟩⟩) rfl kw_37 kw_38 rfl ⟨Nat.le_of_ble_eq_true rfl, Nat.le_of_ble_eq_true rfl⟩ ⟨Nat.le_of_ble_eq_true rfl, Nat.le_of_ble_eq_true rfl⟩ (Nat.le_of_ble_eq_true rfl) (zX8 _ _ _ gw_us ?_)
  show G Φ mL_law _ (some M) 105 4995 7 [(0, .ref b)] [.ref (M + 0)] (hz (gw_up (fun _ => none) M (.inr (8, [.null, .null, .null, .null, .null, .null, .null, .null, .null, vI 0, vI 0]))) M (SL8 Φ M))
  rw [hz_up0 (by rw [SL8_len]; omega)]
  refine gw_astore_n dL_law_7 rfl (by decide) ?_
  show G Φ mL_law _ (some M) 105 4995 8 [(1, .ref (M + 0)), (0, .ref b)] [] (hz (fun _ => none) M (SL8 Φ M))
  refine gw_new (M := M) (cells := 105) cl8 dL_law_8 rfl kw_35 kw_36 kw_17 dfX8 (hz_low0 SL8_len) (Nat.le_of_ble_eq_true rfl) (Nat.le_of_ble_eq_true rfl) ?_
  refine gw_dup dL_law_11 rfl rfl ?_
  refine gw_I0 (M := M) (x' := some (M + 106)) okX8z dL_law_12 (Or.inr ⟨rfl, rfl, Or.inr ⟨_, gw_us⟩⟩) rfl kw_37 kw_38 rfl ⟨Nat.le_of_ble_eq_true rfl, Nat.le_of_ble_eq_true rfl⟩ ⟨Nat.le_of_ble_eq_true rfl, Nat.le_of_ble_eq_true rfl⟩ (Nat.le_of_ble_eq_true rfl) (zX8 _ _ _ gw_us ?_)
  rw [hz_two (n := 105) SL8_len (by rw [SL8_len]; omega)]
  refine gw_astore_n dL_law_15 rfl (by decide) ?_
  show G Φ mL_law _ (some M) 210 9990 16 [(2, .ref (M + 105)), (1, .ref (M + 0)), (0, .ref b)] [] (hz (fun _ => none) M (SL8 Φ M ++ SL8 Φ (M + 105)))
  have h210 : (SL8 Φ M ++ SL8 Φ (M + 105)).length = 210 := by rw [List.length_append, SL8_len, SL8_len]
  refine gw_iconstZ dL_law_16 rfl ?_
  refine gw_newI (M := M) (cells := 210) (N' := 1) dL_law_17 rfl kw_933 (by decide) (by decide) (by decide) (hz_low0 h210) (Nat.le_of_ble_eq_true rfl) (Nat.le_of_ble_eq_true rfl) ?_
  rw [hz_app h210]
  refine gw_astore_n dL_law_19 rfl (by decide) ?_
  refine gw_iconstZ dL_law_20 rfl ?_
  refine gw_istore dL_law_21 rfl (by decide) ?_
  show G Φ mL_law _ (some M) 211 9991 23 [(4, vI 0), (3, .ref (M + 210)), (2, .ref (M + 105)), (1, .ref (M + 0)), (0, .ref b)] [] (hz (fun _ => none) M ((SL8 Φ M ++ SL8 Φ (M + 105)) ++ [gwIz Φ 1 (fun _ => 0)]))
  rw [PA_e, hz_hp]
  exact law_loop (x := some M) hB hL hZ 52 0 (by decide) (by decide) zA zA cA0 211 9991 _ zA_L zA_L rfl ⟨zA_C, zA_P⟩ (by decide) (by decide) (lvL_a rfl rfl rfl rfl rfl)
end LC
