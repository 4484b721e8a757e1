section CZ
/-! things made one after another, from the place a on -/
def hz (h : gwHp) (a : Nat) (L : List va_E) : gwHp := fun q => if a ≤ q then (match L[q - a]? with | some e => some e | none => h q) else h q
section
variable {h : gwHp} {a k n : Nat} {e o : va_E} {L L' : List va_E}
theorem hz_at (hk : L[k]? = some e) : hz h a L (a + k) = some e := by
  unfold hz
  rw [if_pos (by omega), Nat.add_sub_cancel_left, hk]
theorem hz_at0 : hz h a (o :: L) a = some o := hz_at (k := 0) rfl
theorem hz_set (hk : k < L.length) : gw_up (hz h a L) (a + k) e = hz h a (L.set k e) := by
  funext q
  unfold gw_up hz
  by_cases h1 : q = a + k
  · subst h1
    rw [if_pos rfl, if_pos (by omega), Nat.add_sub_cancel_left, List.getElem?_set_self hk]
  · rw [if_neg h1]
    by_cases h2 : a ≤ q
    · rw [if_pos h2, if_pos h2, List.getElem?_set_ne (by omega)]
    · rw [if_neg h2, if_neg h2]
theorem hz_set0 : gw_up (hz h a (o :: L)) a e = hz h a (e :: L) := hz_set (k := 0) (Nat.succ_pos _)
theorem hz_app (hn : L.length = n) : gw_up (hz h a L) (a + n) e = hz h a (L ++ [e]) := by
  funext q
  unfold gw_up hz
  by_cases h1 : q = a + n
  · subst h1
    rw [if_pos rfl, if_pos (by omega), Nat.add_sub_cancel_left, ← hn, List.getElem?_concat_length]
  · rw [if_neg h1]
    by_cases h2 : a ≤ q
    · rw [if_pos h2, if_pos h2]
      by_cases h3 : q - a < n
      · rw [List.getElem?_append_left (by omega)]
      · rw [List.getElem?_eq_none (by omega), List.getElem?_eq_none (by rw [List.length_append, List.length_singleton]; omega)]
    · rw [if_neg h2, if_neg h2]
theorem hz_two (hn : L.length = n) (hp : 0 < L'.length) : hz (gw_up (hz h a L) (a + n) e) (a + n) L' = hz h a (L ++ L') := by
  rw [hz_app hn]
  funext q
  unfold hz
  by_cases h1 : a + n ≤ q
  · have h2 : a ≤ q := by omega
    have e1 : (L ++ L')[q - a]? = L'[q - (a + n)]? := by
      rw [List.getElem?_append_right (by omega), show q - a - L.length = q - (a + n) by omega]
    simp only [if_pos h1, if_pos h2, e1]
    cases hh : L'[q - (a + n)]? with
    | some e2 => rfl
    | none =>
      have h3 : L'.length ≤ q - (a + n) := List.getElem?_eq_none_iff.mp hh
      have e2 : (L ++ [e])[q - a]? = none := List.getElem?_eq_none (by rw [List.length_append, List.length_singleton]; omega)
      simp only [e2]
  · rw [if_neg h1]
    by_cases h2 : a ≤ q
    · have e1 : (L ++ [e])[q - a]? = L[q - a]? := List.getElem?_append_left (by omega)
      have e2 : (L ++ L')[q - a]? = L[q - a]? := List.getElem?_append_left (by omega)
      simp only [if_pos h2, e1, e2]
    · rw [if_neg h2, if_neg h2]
theorem hz_one (hd : h a = some e) : hz h a [e] = h := by
  funext q
  unfold hz
  by_cases h1 : a ≤ q
  · rw [if_pos h1]
    by_cases h2 : q = a
    · subst h2
      rw [Nat.sub_self, hd]
      rfl
    · rw [List.getElem?_eq_none (by rw [List.length_singleton]; omega)]
  · rw [if_neg h1]
theorem hz_hz (hp : 0 < L'.length) : hz (hz h a [e]) a L' = hz h a L' := by
  funext q
  unfold hz
  by_cases h1 : a ≤ q
  · simp only [if_pos h1]
    cases hh : L'[q - a]? with
    | some e2 => rfl
    | none =>
      have h3 : L'.length ≤ q - a := List.getElem?_eq_none_iff.mp hh
      have e2 : ([e] : List va_E)[q - a]? = none := List.getElem?_eq_none (by rw [List.length_singleton]; omega)
      simp only [e2]
  · simp only [if_neg h1]
theorem hz_low (hL : L.length = n) : gw_low (hz h a (o :: L)) (a + 1) n := by
  cases n with
  | zero => exact Or.inl rfl
  | succ n =>
    refine Or.inr ⟨L[n]'(by omega), ?_⟩
    rw [show a + 1 + (n + 1 - 1) = a + (n + 1) by omega]
    refine hz_at ?_
    show L[n]? = _
    exact List.getElem?_eq_getElem _
end
/-- what makes a thing at b -/
def CzOk (Φ : gwC) (Y : gwY) (As : List Value) (d : va_E) (L : Nat → List va_E) : Prop := ∀ (b : Nat) (h : gwHp) (K : Option Value → gwHp → Prop), h b = some d → K none (hz h b (L b)) → gw_Con Φ Y (some (b + 1)) (.ref b :: As) h K
theorem czOk_i {Φ : gwC} {Y : gwY} {As : List Value} {d : va_E} {L : Nat → List va_E} (hp : ∀ b, 0 < (L b).length) (k : ∀ (a : Nat) (h : gwHp) (K : Option Value → gwHp → Prop), K none (hz h a (L a)) → gw_Con Φ Y (some (a + 1)) (.ref a :: As) (hz h a [d]) K) : CzOk Φ Y As d L := by
  intro b h K hd hK
  have e := k b h K hK
  rw [hz_one hd] at e
  exact e
section
variable {Φ : gwC} {Y Y' : gwY} {E : gwE} {x : Option Nat} {cells slots pc pc' : Nat} {lv : List (Nat × Value)} {st rest : List Value} {h : gwHp} {a n N ci index : Nat} {C host : String} {T : u_T} {ty : Nat → FieldType} {fs : List Value} {o d9 : va_E} {L : List va_E} {L' : Nat → List va_E} {v : Value}
theorem cz_get (cl : gw_Cl ci C T N ty) (k0 : Nat) (d : decode Y.2.1 pc = .ok (.getfield index, 3)) (e9 : pc + 3 = pc') (hl0 : Cond.fieldLink Y.1.cls index (T k0).1 (T k0).2.1 (T k0).2.2.1 ∈ gw_W) (hk : k0 < N) (hv : fs[k0]? = some v) (k : G Φ Y E x cells slots pc' lv (v :: st) (hz h a (.inr (ci, fs) :: L))) : G Φ Y E x cells slots pc lv (.ref a :: st) (hz h a (.inr (ci, fs) :: L)) := gw_get cl k0 d e9 hl0 hk hz_at0 hv k
theorem cz_put (cl : gw_Cl ci C T N ty) (k0 : Nat) (d : decode Y.2.1 pc = .ok (.putfield index, 3)) (e9 : pc + 3 = pc') (hl0 : Cond.fieldLink Y.1.cls index (T k0).1 (T k0).2.1 (T k0).2.2.1 ∈ gw_W) (hk : k0 < N) (hfin : (T k0).2.2.2 = false) (hn : narrow (ty k0) v = v) (hfit : fits (ty k0) v = true) (hlen : k0 < fs.length) (k : G Φ Y E x cells slots pc' lv st (hz h a (.inr (ci, fs.set k0 v) :: L))) : G Φ Y E x cells slots pc lv (v :: .ref a :: st) (hz h a (.inr (ci, fs) :: L)) := gw_put cl k0 d e9 hl0 hk hfin hz_at0 hn hfit hlen (by rw [hz_set0]; exact k)
theorem cz_putF (cl : gw_Cl ci C T N ty) (k0 : Nat) (d : decode Y.2.1 pc = .ok (.putfield index, 3)) (e9 : pc + 3 = pc') (hl0 : Cond.fieldLink Y.1.cls index (T k0).1 (T k0).2.1 (T k0).2.2.1 ∈ gw_W) (hk : k0 < N) (hfin : (T k0).2.2.2 = true) (hini : Y.1.name = "<init>") (hdecl : (T k0).1 = Y.1.cls) (hn : narrow (ty k0) v = v) (hfit : fits (ty k0) v = true) (hlen : k0 < fs.length) (k : G Φ Y E x cells slots pc' lv st (hz h a (.inr (ci, fs.set k0 v) :: L))) : G Φ Y E x cells slots pc lv (v :: .ref a :: st) (hz h a (.inr (ci, fs) :: L)) := gw_putF cl k0 d e9 hl0 hk hfin hini hdecl hz_at0 hn hfit hlen (by rw [hz_set0]; exact k)
theorem cz_new (cl : gw_Cl ci C T N ty) (d : decode Y.2.1 pc = .ok (.new index, 3)) (e9 : pc + 3 = pc') (hcl : Cond.classLink Y.1.cls index C ∈ gw_W) (hinst : Cond.instantiable C N ∈ gw_W) (hini : Cond.initialized C ∈ gw_W) {fs : List Value} (hfs : ∀ j, j < N → defaultValue (ty j) = vp_V fs j) (hL : L.length = cells) (hc : cells + 1 ≤ (gwRm Y).cells) (hs : slots + N ≤ (gwRm Y).slots)
    (k : G Φ Y E (some (a + 1)) (cells + 1) (slots + N) pc' lv (.ref (a + 1 + cells) :: st) (gw_up (hz h a (o :: L)) (a + 1 + cells) (.inr (ci, fs)))) : G Φ Y E (some (a + 1)) cells slots pc lv st (hz h a (o :: L)) := gw_new cl d e9 hcl hinst hini hfs (hz_low hL) hc hs k
theorem cz_ap {K2 : gwHp → Prop} (hL : L.length = n) (hp : ∀ b, 0 < (L' b).length) (k : K2 (hz h a (o :: (L ++ L' (a + 1 + n))))) : K2 (hz (gw_up (hz h a (o :: L)) (a + 1 + n) d9) (a + 1 + n) (L' (a + 1 + n))) := by
  have e := hz_two (h := h) (a := a) (L := o :: L) (n := n + 1) (e := d9) (L' := L' (a + 1 + n)) (by rw [List.length_cons, hL]) (hp _)
  rw [show a + (n + 1) = a + 1 + n by omega] at e
  rw [e]
  exact k
theorem cz_ap1 {K2 : gwHp → Prop} (hL : L.length = n) (k : K2 (hz h a (o :: (L ++ [d9])))) : K2 (gw_up (hz h a (o :: L)) (a + 1 + n) d9) := by
  have e := hz_app (h := h) (a := a) (L := o :: L) (n := n + 1) (e := d9) (by rw [List.length_cons, hL])
  rw [show a + (n + 1) = a + 1 + n by omega] at e
  rw [e]
  exact k
theorem cz_I0 (ok : gw_ok Y' 0) (d : decode Y.2.1 pc = .ok (.invokespecial index, 3)) (hr : Y'.2.2.2.1 = none) (hl0 : Cond.methodLink Y.1.cls index Y'.1 ∈ gw_W) (hi : Cond.instanceMethod Y'.1 ∈ gw_W) (hnm : Y'.1.name = "<init>") (hR : gw_fit Y Y') (hf : n + 1 + (gwRm Y').cells ≤ (gwRm Y).cells ∧ slots + (gwRm Y').slots ≤ (gwRm Y).slots) (hW : (rest.map fun v => v.category).sum ≤ 8) (hL : L.length = n) (hp : ∀ b, 0 < (L' b).length) (hc : CzOk Φ Y' [] d9 L')
    (k : G Φ Y E (some (a + 1)) (n + 1 + (gwRm Y').cells) (slots + (gwRm Y').slots) (pc + 3) lv rest (hz h a (o :: (L ++ L' (a + 1 + n))))) : G Φ Y E (some (a + 1)) (n + 1) slots pc lv (.ref (a + 1 + n) :: rest) (gw_up (hz h a (o :: L)) (a + 1 + n) d9) :=
  gw_I0 ok d (M := a + 1) (x' := some (a + 1 + n + 1)) (Or.inr ⟨rfl, rfl, Or.inr ⟨d9, gw_us⟩⟩) hr hl0 hi hnm hR hf hW (hc _ _ _ gw_us (cz_ap (K2 := fun h' => G Φ Y E (some (a + 1)) (n + 1 + (gwRm Y').cells) (slots + (gwRm Y').slots) (pc + 3) lv (gw_psh none rest) h') hL hp k))
theorem cz_IN0 (ok : gw_ok Y' 0) (d : decode Y.2.1 pc = .ok (.invokespecial index, 3)) (hr : Y'.2.2.2.1 = none) (hl0 : Cond.methodLinkNest Y.1.cls index Y'.1 host ∈ gw_NW) (hi : Cond.instanceMethod Y'.1 ∈ gw_W) (hnm : Y'.1.name = "<init>") (hR : gw_fit Y Y') (hf : n + 1 + (gwRm Y').cells ≤ (gwRm Y).cells ∧ slots + (gwRm Y').slots ≤ (gwRm Y).slots) (hW : (rest.map fun v => v.category).sum ≤ 8) (hL : L.length = n) (hp : ∀ b, 0 < (L' b).length) (hc : CzOk Φ Y' [] d9 L')
    (k : G Φ Y E (some (a + 1)) (n + 1 + (gwRm Y').cells) (slots + (gwRm Y').slots) (pc + 3) lv rest (hz h a (o :: (L ++ L' (a + 1 + n))))) : G Φ Y E (some (a + 1)) (n + 1) slots pc lv (.ref (a + 1 + n) :: rest) (gw_up (hz h a (o :: L)) (a + 1 + n) d9) :=
  gw_IN0 ok d (M := a + 1) (x' := some (a + 1 + n + 1)) (Or.inr ⟨rfl, rfl, Or.inr ⟨d9, gw_us⟩⟩) hr hl0 hi hnm hR hf hW (hc _ _ _ gw_us (cz_ap (K2 := fun h' => G Φ Y E (some (a + 1)) (n + 1 + (gwRm Y').cells) (slots + (gwRm Y').slots) (pc + 3) lv (gw_psh none rest) h') hL hp k))
theorem cz_I2 {a1 a2 : Value} (ok : gw_ok Y' 2) (d : decode Y.2.1 pc = .ok (.invokespecial index, 3)) (hr : Y'.2.2.2.1 = none) (hl0 : Cond.methodLink Y.1.cls index Y'.1 ∈ gw_W) (hi : Cond.instanceMethod Y'.1 ∈ gw_W) (hnm : Y'.1.name = "<init>") (hR : gw_fit Y Y') (hf : n + 1 + (gwRm Y').cells ≤ (gwRm Y).cells ∧ slots + (gwRm Y').slots ≤ (gwRm Y).slots) (hW : (rest.map fun v => v.category).sum ≤ 8) (hL : L.length = n) (hp : ∀ b, 0 < (L' b).length) (hc : CzOk Φ Y' [a1, a2] d9 L')
    (k : G Φ Y E (some (a + 1)) (n + 1 + (gwRm Y').cells) (slots + (gwRm Y').slots) (pc + 3) lv rest (hz h a (o :: (L ++ L' (a + 1 + n))))) : G Φ Y E (some (a + 1)) (n + 1) slots pc lv (a2 :: a1 :: .ref (a + 1 + n) :: rest) (gw_up (hz h a (o :: L)) (a + 1 + n) d9) :=
  gw_I2 ok d (M := a + 1) (x' := some (a + 1 + n + 1)) (Or.inr ⟨rfl, rfl, Or.inr ⟨d9, gw_us⟩⟩) hr hl0 hi hnm hR hf hW (hc _ _ _ gw_us (cz_ap (K2 := fun h' => G Φ Y E (some (a + 1)) (n + 1 + (gwRm Y').cells) (slots + (gwRm Y').slots) (pc + 3) lv (gw_psh none rest) h') hL hp k))
theorem gwI_0 : gwI Φ n (fun _ => 0) = gwIz Φ n (fun _ => 0) := rfl
theorem gwL_0 : gwL Φ n (fun _ => 0) = gwLz Φ n (fun _ => 0) := rfl
theorem cz_newI {z : Int} (d : decode Y.2.1 pc = .ok (.newarray .int, 2)) (e9 : pc + 2 = pc') (harr : Cond.arrayClass .int ∈ gw_W) (hz0 : z = (n : Int)) (hn : n ≤ 100000) (hL : L.length = cells) (hc : cells + 1 ≤ (gwRm Y).cells) (hs : slots + n ≤ (gwRm Y).slots)
    (k : G Φ Y E (some (a + 1)) (cells + 1) (slots + n) pc' lv (.ref (a + 1 + cells) :: st) (hz h a (o :: (L ++ [gwIz Φ n (fun _ => 0)])))) : G Φ Y E (some (a + 1)) cells slots pc lv (vI z :: st) (hz h a (o :: L)) := by
  subst hz0
  have h1 : ¬ i32 (n : Int) < 0 := fun z => by
    have := (i32_lt (x := (n : Int)) (y := 0) ⟨by omega, by omega⟩ ⟨by omega, by omega⟩).mp z
    omega
  refine gw_newI (N' := n) d e9 harr h1 (i32_nat (by omega)) (by omega) (hz_low hL) hc hs ?_
  exact cz_ap1 (K2 := fun h' => G Φ Y E (some (a + 1)) (cells + 1) (slots + n) pc' lv (.ref (a + 1 + cells) :: st) h') hL k
theorem cz_newL {z : Int} (d : decode Y.2.1 pc = .ok (.newarray .long, 2)) (e9 : pc + 2 = pc') (harr : Cond.arrayClass .long ∈ gw_W) (hz0 : z = (n : Int)) (hn : n ≤ 100000) (hL : L.length = cells) (hc : cells + 1 ≤ (gwRm Y).cells) (hs : slots + n ≤ (gwRm Y).slots)
    (k : G Φ Y E (some (a + 1)) (cells + 1) (slots + n) pc' lv (.ref (a + 1 + cells) :: st) (hz h a (o :: (L ++ [gwLz Φ n (fun _ => 0)])))) : G Φ Y E (some (a + 1)) cells slots pc lv (vI z :: st) (hz h a (o :: L)) := by
  subst hz0
  have h1 : ¬ i32 (n : Int) < 0 := fun z => by
    have := (i32_lt (x := (n : Int)) (y := 0) ⟨by omega, by omega⟩ ⟨by omega, by omega⟩).mp z
    omega
  refine gw_newL (N' := n) d e9 harr h1 (i32_nat (by omega)) (by omega) (hz_low hL) hc hs ?_
  exact cz_ap1 (K2 := fun h' => G Φ Y E (some (a + 1)) (cells + 1) (slots + n) pc' lv (.ref (a + 1 + cells) :: st) h') hL k
theorem cz_newR {z : Int} (d : decode Y.2.1 pc = .ok (.anewarray index, 3)) (e9 : pc + 3 = pc') (hcl : Cond.classLink Y.1.cls index RX4 ∈ gw_W) (hover : Cond.arrayOver (.object RX4) ∈ gw_NW) (hz0 : z = (n : Int)) (hn : n ≤ 100000) (hL : L.length = cells) (hc : cells + 1 ≤ (gwRm Y).cells) (hs : slots + n ≤ (gwRm Y).slots)
    (k : G Φ Y E (some (a + 1)) (cells + 1) (slots + n) pc' lv (.ref (a + 1 + cells) :: st) (hz h a (o :: (L ++ [gwR Φ n (fun _ => none)])))) : G Φ Y E (some (a + 1)) cells slots pc lv (vI z :: st) (hz h a (o :: L)) := by
  subst hz0
  have h1 : ¬ i32 (n : Int) < 0 := fun z => by
    have := (i32_lt (x := (n : Int)) (y := 0) ⟨by omega, by omega⟩ ⟨by omega, by omega⟩).mp z
    omega
  refine gw_newR (N' := n) d e9 hcl hover h1 (i32_nat (by omega)) (by omega) (hz_low hL) hc hs ?_
  exact cz_ap1 (K2 := fun h' => G Φ Y E (some (a + 1)) (cells + 1) (slots + n) pc' lv (.ref (a + 1 + cells) :: st) h') hL k
/-- rows of references that agree in their places are one -/
theorem gw_sameR {f g : Nat → Option Nat} (hfg : ∀ j, j < n → f j = g j) (kk : G Φ Y E x cells slots pc lv st (gw_up h a (gwR Φ n g))) : G Φ Y E x cells slots pc lv st (gw_up h a (gwR Φ n f)) := by
  intro p e s m args below meth c H locs ls F hH hS hl
  refine kk p e s m args below meth c H locs ls F ?_ hS hl
  obtain ⟨ws, h1, h2, h3⟩ := hH
  have hc : vp_cell Φ.2.2.2.2.2 (n, .inr (.inr (.inr (.inr f)))) = vp_cell Φ.2.2.2.2.2 (n, .inr (.inr (.inr (.inr g)))) := by
    show arrV _ n (fun j => va_rf (f j)) = arrV _ n (fun j => va_rf (g j))
    have e : (fun j : Fin n => va_rf (f j.val)) = fun j : Fin n => va_rf (g j.val) := funext fun j => by rw [hfg j.val j.isLt]
    unfold arrV
    rw [e]
  obtain ⟨k, hk⟩ := List.getElem?_of_mem (h1 a _ gw_us)
  have hat := h2 k _ hk
  have hat2 : va_at Φ.2.2.1 vwCl (a, gwR Φ n g) H := by
    show H[a]? = some (vp_cell Φ.2.2.2.2.2 (n, .inr (.inr (.inr (.inr g)))))
    rw [← hc]
    exact hat
  have hset : ∀ (j : Nat) (q : Nat × va_E), (ws.set k (a, gwR Φ n g))[j]? = some q → (j = k ∧ q = (a, gwR Φ n g)) ∨ (j ≠ k ∧ ws[j]? = some q) := by
    intro j q hj
    by_cases hjk : j = k
    · subst hjk
      have hlt : j < ws.length := (List.getElem?_eq_some_iff.mp hk).1
      rw [List.getElem?_set_self hlt] at hj
      exact Or.inl ⟨rfl, (Option.some.inj hj).symm⟩
    · rw [List.getElem?_set_ne (Ne.symm hjk)] at hj
      exact Or.inr ⟨hjk, hj⟩
  have hP : va_P Φ.2.2.1 vwCl (ws.set k (a, gwR Φ n g)) H := by
    intro j q hj
    rcases hset j q hj with ⟨-, rfl⟩ | ⟨-, hj⟩
    · exact hat2
    · exact h2 j q hj
  have h1' : ∀ q e9, gw_up h a (gwR Φ n f) q = some e9 → (q, e9) ∈ ws := h1
  have hz := gw_H.sup (h := gw_up h a (gwR Φ n f)) (e' := gwR Φ n g) h3 h1' hk hP (h3.set hk)
  rw [gw_uu] at hz
  exact hz
theorem cz_aast {k0 kv : Nat} {i : Int} {f g : Nat → Option Nat} {b b2 : Nat} {vs : List Value} (d : decode Y.2.1 pc = .ok (.aastore, 1)) (e9 : pc + 1 = pc') (hb : a + k0 = b) (hb2 : a + kv = b2) (hh : L[k0]? = some (gwR Φ n f)) (hhv : L[kv]? = some (.inr (4, vs))) (hi : 0 ≤ i ∧ i < (n : Int)) (hn : n ≤ 2000000000) (hfg : ∀ j, j < n → va_up f i.toNat (some b2) j = g j) (k : G Φ Y E x cells slots pc' lv st (hz h a (L.set k0 (gwR Φ n g)))) : G Φ Y E x cells slots pc lv (.ref b2 :: vI i :: .ref b :: st) (hz h a L) := by
  subst hb hb2
  refine gw_aast d e9 (hz_at hh) (hz_at hhv) (i32_in hi hn) ?_
  rw [show (i32 i).toNatClampNeg = i.toNat by
    have e := i32_nn hi hn
    omega]
  refine gw_sameR hfg ?_
  rw [hz_set (List.getElem?_eq_some_iff.mp hh).1]
  exact k
end
end CZ
