section NW
abbrev nL_low : gwY := (yL_low, cL_low, 2, (Option.some Jvm.ClassFile.FieldType.int), { frames := 1, cells := 0, slots := 0, locals := 40 }, [])
theorem oknL_low : gw_ok nL_low 2 := ⟨by decide +kernel, kw_371, kw_16, by decide +kernel, rfl⟩
set_option maxRecDepth 100000 in
set_option maxHeartbeats 4000000 in
theorem w_L_low {Φ : gwC} {hb : gwHp} {M : Nat} {sh : Nat → Option gSh} {p1 : Int} {p2 : Int} {c : W0} {r : Int} {K : Option Value → gwHp → Prop}  (H : f_L_low p1 p2 = some r) (hK : K (some (vI r)) (hp Φ hb M sh c)) : gw_Con Φ nL_low none [vI p1, vI p2] (hp Φ hb M sh c) K := by
  unfold f_L_low at H
  refine gw_start oknL_low (Nat.le_of_ble_eq_true rfl) ?_
  refine gw_iload_n dL_low_0 rfl rfl ?_
  refine gw_ldcZ (z := 2147483647) dL_low_1 rfl kw_372 (by decide) ?_
  refine gw_iandZ dL_low_3 rfl ?_
  refine gw_iload_n dL_low_4 rfl rfl ?_
  obtain ⟨g, H⟩ := gd_i H
  refine gw_iremZ dL_low_5 rfl g.1 g.2.1 g.2.2 ?_
  cases H
  exact gw_iret dL_low_6 rfl (by decide) (by decide) hK
end NW
