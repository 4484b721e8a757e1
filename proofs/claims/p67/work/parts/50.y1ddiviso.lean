section NW
abbrev nL_divisor : gwY := (yL_divisor, cL_divisor, 10, (Option.some Jvm.ClassFile.FieldType.long), { frames := 1, cells := 0, slots := 0, locals := 40 }, [])
theorem oknL_divisor : gw_ok nL_divisor 2 := ⟨by decide +kernel, kw_713, kw_16, by decide +kernel, rfl⟩
set_option maxRecDepth 100000 in
set_option maxHeartbeats 4000000 in
theorem l_L_divisor_17 {Φ : gwC} {hb : gwHp} {M : Nat} {sh : Nat → Option gSh} {c : W0} {κ : Int → Option Int} {r : Int} {K : Option Value → gwHp → Prop}  (hK : K (some (vL r)) (hp Φ hb M sh c)) (hκ : ∀ (x4 : Int), κ x4 = some r → G Φ nL_divisor (gw_M Φ nL_divisor K) none 0 0 42 [(4, vL x4)] [] (hp Φ hb M sh c)) : ∀ (n : Nat) (l4 : Int) (l6 : Int), f_L_divisor_17  κ n l4 l6 = some r → G Φ nL_divisor (gw_M Φ nL_divisor K) none 0 0 17 [(4, vL l4), (6, vL l6)] [] (hp Φ hb M sh c) := by
  intro n
  induction n with
  | zero => intro l4 l6 H; cases H
  | succ n ih =>
    intro l4 l6 H
    have H : b_L_divisor_17  κ (f_L_divisor_17  κ n) l4 l6 = some r := H
    unfold b_L_divisor_17 at H
    refine gw_lload dL_divisor_17 rfl rfl ?_
    refine gw_lconst0Z dL_divisor_19 rfl ?_
    obtain ⟨g, H⟩ := gd_i H
    refine gw_lc_leZ (tgt := 42) dL_divisor_20 rfl dL_divisor_21 rfl (by decide) g (by decide) (fun q => ?_) (fun q => ?_)
    · have H := bq_t q H
      exact gw_L (hκ _ H) ((lvA_c rfl lvA_n))
    · have H := bq_f q H
      refine gw_lload dL_divisor_24 rfl rfl ?_
      refine gw_lload dL_divisor_26 rfl rfl ?_
      obtain ⟨g, H⟩ := gd_i H
      refine gw_lremZ dL_divisor_28 rfl g.1 g.2.1 g.2.2 ?_
      refine gw_lstore dL_divisor_29 rfl (by decide) ?_
      refine gw_lload dL_divisor_31 rfl rfl ?_
      refine gw_lstore dL_divisor_33 rfl (by decide) ?_
      refine gw_lload dL_divisor_35 rfl rfl ?_
      refine gw_lstore dL_divisor_37 rfl (by decide) ?_
      refine gw_goto (tgt := 17) dL_divisor_39 (by decide) ?_
      exact gw_L (ih _ _ H) ((lvA_c rfl (lvA_c rfl lvA_n)))
set_option maxRecDepth 100000 in
set_option maxHeartbeats 4000000 in
theorem w_L_divisor {Φ : gwC} {hb : gwHp} {M : Nat} {sh : Nat → Option gSh} {p1 : Int} {p2 : Int} {c : W0} {r : Int} {K : Option Value → gwHp → Prop}  (H : f_L_divisor p1 p2 = some r) (hK : K (some (vL r)) (hp Φ hb M sh c)) : gw_Con Φ nL_divisor none [vL p1, vL p2] (hp Φ hb M sh c) K := by
  unfold f_L_divisor at H
  refine gw_start oknL_divisor (Nat.le_of_ble_eq_true rfl) ?_
  refine gw_lload_n dL_divisor_0 rfl rfl ?_
  refine gw_lconst0Z dL_divisor_1 rfl ?_
  obtain ⟨g, H⟩ := gd_i H
  obtain ⟨k1, e_k1, H⟩ := jn_i H
  have hJ_k1 : ∀ (v2 : Int), k1 v2 = some r → G Φ nL_divisor (gw_M Φ nL_divisor K) none 0 0 12 [(2, vL p2)] [vL v2] (hp Φ hb M sh c) := by
    intro v2 H
    subst e_k1
    refine gw_lstore dL_divisor_12 rfl (by decide) ?_
    refine gw_lload_n dL_divisor_14 rfl rfl ?_
    refine gw_lstore dL_divisor_15 rfl (by decide) ?_
    refine gw_L (l_L_divisor_17  hK (fun v3 H => ?_) LF _ _ H) ((lvA_c rfl (lvA_c rfl lvA_n)))
    refine gw_lload dL_divisor_42 rfl rfl ?_
    cases H
    exact gw_lret dL_divisor_44 rfl (by decide) (by decide) hK
  refine gw_lc_geZ (tgt := 11) dL_divisor_2 rfl dL_divisor_3 rfl (by decide) g (by decide) (fun q => ?_) (fun q => ?_)
  · have H := bq_t q H
    refine gw_lload_n dL_divisor_11 rfl rfl ?_
    exact gw_L (hJ_k1 _ H) ((lvA_c rfl lvA_n))
  · have H := bq_f q H
    refine gw_lload_n dL_divisor_6 rfl rfl ?_
    refine gw_lnegZ dL_divisor_7 rfl ?_
    refine gw_goto (tgt := 12) dL_divisor_8 (by decide) ?_
    exact gw_L (hJ_k1 _ H) ((lvA_c rfl lvA_n))
end NW
