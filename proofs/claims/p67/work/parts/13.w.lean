section GS
/-! THE WORLD: things at places k, reached by the reference M + k; what they hold is a row of whole numbers c k -/
abbrev gSh : Type := Nat × Nat × List (Nat ⊕ Int)
def fv (M : Nat) (d : Nat ⊕ Int) (z : Int) : Value := match d with
  | .inl 0 => vI z
  | .inl 1 => vL z
  | .inl (k + 2) => .ref (M + k)
  | .inr w => vI w
def fl (M : Nat) (F : Int → Int) : Int → List (Nat ⊕ Int) → List Value
  | _, [] => []
  | i, d :: r => fv M d (F i) :: fl M F (i + 1) r
def rz (Φ : gwC) (M : Nat) (s : gSh) (F : Int → Int) : va_E := match s with
  | (0, ci, ds) => .inr (ci, fl M F 0 ds)
  | (1, n, _) => gwIz Φ n F
  | (2, n, _) => gwLz Φ n F
  | (_, n, _) => gwR Φ n (fun j => some (M + (F (j : Int)).toNat))
def hp (Φ : gwC) (hb : gwHp) (M : Nat) (sh : Nat → Option gSh) (c : Nat → Int → Int) : gwHp := fun q => if q < M then hb q else (sh (q - M)).map fun s => rz Φ M s (c (q - M))
def upc (c : Nat → Int → Int) (k : Nat) (F : Int → Int) : Nat → Int → Int := fun q => if q = k then F else c q
theorem upc_s {c : Nat → Int → Int} {k : Nat} {F : Int → Int} : upc c k F k = F := if_pos rfl
theorem upc_n {c : Nat → Int → Int} {k q : Nat} {F : Int → Int} (h : q ≠ k) : upc c k F q = c q := if_neg h
theorem upc_u {c : Nat → Int → Int} {k : Nat} {F F' : Int → Int} : upc (upc c k F) k F' = upc c k F' := by
  funext q
  unfold upc
  by_cases h : q = k
  · rw [if_pos h, if_pos h]
  · rw [if_neg h, if_neg h, if_neg h]
theorem upc_i {c : Nat → Int → Int} {k : Nat} : upc c k (c k) = c := by
  funext q
  unfold upc
  by_cases h : q = k
  · rw [if_pos h, h]
  · rw [if_neg h]
theorem fl_get {M : Nat} {F : Int → Int} : ∀ {ds : List (Nat ⊕ Int)} {k : Nat} {i : Int} {d : Nat ⊕ Int}, ds[k]? = some d → (fl M F i ds)[k]? = some (fv M d (F (i + k)))
  | [], k, i, d, h => by cases h
  | d0 :: r, 0, i, d, h => by
    cases h
    show some (fv M d0 (F i)) = some (fv M d0 (F (i + 0)))
    rw [Int.add_zero]
  | d0 :: r, k + 1, i, d, h => by
    have h2 : r[k]? = some d := h
    show (fl M F (i + 1) r)[k]? = _
    rw [fl_get h2]
    congr 3
    omega
theorem fl_len {M : Nat} {F : Int → Int} : ∀ {ds : List (Nat ⊕ Int)} {i : Int}, (fl M F i ds).length = ds.length
  | [], _ => rfl
  | _ :: r, i => congrArg Nat.succ (fl_len (ds := r) (i := i + 1))
theorem fl_low {M : Nat} {F : Int → Int} {v z : Int} : ∀ {ds : List (Nat ⊕ Int)} {i : Int}, z < i → fl M (updZ F z v) i ds = fl M F i ds
  | [], _, _ => rfl
  | d :: r, i, h => by
    show fv M d (updZ F z v i) :: fl M (updZ F z v) (i + 1) r = _
    rw [fl_low (by omega), updZ_n (by omega)]
    rfl
theorem fl_set {M : Nat} {F : Int → Int} {v : Int} : ∀ {ds : List (Nat ⊕ Int)} {k : Nat} {i : Int} {d : Nat ⊕ Int}, ds[k]? = some d → fl M (updZ F (i + k) v) i ds = (fl M F i ds).set k (fv M d v)
  | [], k, i, d, h => by cases h
  | d0 :: r, 0, i, d, h => by
    cases h
    show fv M d0 (updZ F (i + 0) v i) :: fl M (updZ F (i + 0) v) (i + 1) r = fv M d0 v :: fl M F (i + 1) r
    rw [Int.add_zero, updZ_s, fl_low (by omega)]
  | d0 :: r, k + 1, i, d, h => by
    have h2 : r[k]? = some d := h
    show fv M d0 (updZ F (i + (k + 1 : Nat)) v i) :: fl M (updZ F (i + (k + 1 : Nat)) v) (i + 1) r = fv M d0 (F i) :: (fl M F (i + 1) r).set k (fv M d v)
    rw [updZ_n (by omega), show i + ((k + 1 : Nat) : Int) = (i + 1) + (k : Int) by omega, fl_set h2]
section
variable {Φ : gwC} {hb : gwHp} {M : Nat} {sh : Nat → Option gSh} {c : Nat → Int → Int} {q q2 n ci : Nat} {ds : List (Nat ⊕ Int)} {F : Int → Int}
theorem hp_at {s : gSh} (hs : sh q = some s) : hp Φ hb M sh c (M + q) = some (rz Φ M s (c q)) := by
  unfold hp
  rw [if_neg (by omega), Nat.add_sub_cancel_left, hs]
  rfl
theorem hp_o (hs : sh q = some (0, ci, ds)) : hp Φ hb M sh c (M + q) = some (.inr (ci, fl M (c q) 0 ds)) := hp_at hs
theorem hp_i (hs : sh q = some (1, n, [])) : hp Φ hb M sh c (M + q) = some (gwIz Φ n (c q)) := hp_at hs
theorem hp_l (hs : sh q = some (2, n, [])) : hp Φ hb M sh c (M + q) = some (gwLz Φ n (c q)) := hp_at hs
theorem hp_r (hs : sh q = some (3, n, [])) : hp Φ hb M sh c (M + q) = some (gwR Φ n (fun (j : Nat) => some (M + (c q (j : Int)).toNat))) := hp_at hs
theorem hp_up {s : gSh} (hs : sh q = some s) {e : va_E} (he : rz Φ M s F = e) : gw_up (hp Φ hb M sh c) (M + q) e = hp Φ hb M sh (upc c q F) := by
  funext p
  unfold gw_up hp upc
  by_cases hp1 : p = M + q
  · rw [if_pos hp1, if_neg (by omega), hp1, Nat.add_sub_cancel_left, if_pos rfl, hs, ← he]
    rfl
  · rw [if_neg hp1]
    by_cases hp2 : p < M
    · rw [if_pos hp2, if_pos hp2]
    · rw [if_neg hp2, if_neg hp2, if_neg (show ¬ p - M = q by omega)]
theorem hp_upI (hs : sh q = some (1, n, [])) : gw_up (hp Φ hb M sh c) (M + q) (gwIz Φ n F) = hp Φ hb M sh (upc c q F) := hp_up hs rfl
theorem hp_upL (hs : sh q = some (2, n, [])) : gw_up (hp Φ hb M sh c) (M + q) (gwLz Φ n F) = hp Φ hb M sh (upc c q F) := hp_up hs rfl
end
section SR
variable {Φ : gwC} {Y : gwY} {E : gwE} {x : Option Nat} {cells slots pc pc' : Nat} {lv lv' : List (Nat × Value)} {st : List Value} {hb : gwHp} {M : Nat} {sh : Nat → Option gSh} {c : Nat → Int → Int} {q q2 n ci N index : Nat} {C host : String} {T : u_T} {ty : Nat → FieldType} {ds : List (Nat ⊕ Int)} {F : Int → Int} {i v : Int}
theorem gs_nz {v : Int} (hv : 0 ≤ v ∧ v ≤ 1) : narrow .boolean (vI v) = vI v := by
  have h : v = 0 ∨ v = 1 := by omega
  rcases h with rfl | rfl <;> rfl
theorem gs_fz {v : Int} (hv : 0 ≤ v ∧ v ≤ 1) : fits .boolean (vI v) = true := by
  have h : v = 0 ∨ v = 1 := by omega
  rcases h with rfl | rfl <;> rfl
theorem gs_getI (cl : gw_Cl ci C T N ty) (k0 : Nat) (z : Int) (d : decode Y.2.1 pc = .ok (.getfield index, 3)) (e9 : pc + 3 = pc') (hl0 : Cond.fieldLink Y.1.cls index (T k0).1 (T k0).2.1 (T k0).2.2.1 ∈ gw_W) (hk : k0 < N) (hs : sh q = some (0, ci, ds)) (hd : ds[k0]? = some (.inl 0)) (hz : (k0 : Int) = z) (kk : G Φ Y E x cells slots pc' lv (vI (c q z) :: st) (hp Φ hb M sh c)) : G Φ Y E x cells slots pc lv (.ref (M + q) :: st) (hp Φ hb M sh c) := gw_get cl k0 d e9 hl0 hk (hp_o hs) (by rw [fl_get hd, Int.zero_add, hz]; rfl) kk
theorem gs_getL (cl : gw_Cl ci C T N ty) (k0 : Nat) (z : Int) (d : decode Y.2.1 pc = .ok (.getfield index, 3)) (e9 : pc + 3 = pc') (hl0 : Cond.fieldLink Y.1.cls index (T k0).1 (T k0).2.1 (T k0).2.2.1 ∈ gw_W) (hk : k0 < N) (hs : sh q = some (0, ci, ds)) (hd : ds[k0]? = some (.inl 1)) (hz : (k0 : Int) = z) (kk : G Φ Y E x cells slots pc' lv (vL (c q z) :: st) (hp Φ hb M sh c)) : G Φ Y E x cells slots pc lv (.ref (M + q) :: st) (hp Φ hb M sh c) := gw_get cl k0 d e9 hl0 hk (hp_o hs) (by rw [fl_get hd, Int.zero_add, hz]; rfl) kk
theorem gs_getR (cl : gw_Cl ci C T N ty) (k0 : Nat) {r : Nat} (d : decode Y.2.1 pc = .ok (.getfield index, 3)) (e9 : pc + 3 = pc') (hl0 : Cond.fieldLink Y.1.cls index (T k0).1 (T k0).2.1 (T k0).2.2.1 ∈ gw_W) (hk : k0 < N) (hs : sh q = some (0, ci, ds)) (hd : ds[k0]? = some (.inl (r + 2))) (kk : G Φ Y E x cells slots pc' lv (.ref (M + r) :: st) (hp Φ hb M sh c)) : G Φ Y E x cells slots pc lv (.ref (M + q) :: st) (hp Φ hb M sh c) := gw_get cl k0 d e9 hl0 hk (hp_o hs) (by rw [fl_get hd]; rfl) kk
theorem gs_getK (cl : gw_Cl ci C T N ty) (k0 : Nat) {w : Int} (d : decode Y.2.1 pc = .ok (.getfield index, 3)) (e9 : pc + 3 = pc') (hl0 : Cond.fieldLink Y.1.cls index (T k0).1 (T k0).2.1 (T k0).2.2.1 ∈ gw_W) (hk : k0 < N) (hs : sh q = some (0, ci, ds)) (hd : ds[k0]? = some (.inr w)) (kk : G Φ Y E x cells slots pc' lv (vI w :: st) (hp Φ hb M sh c)) : G Φ Y E x cells slots pc lv (.ref (M + q) :: st) (hp Φ hb M sh c) := gw_get cl k0 d e9 hl0 hk (hp_o hs) (by rw [fl_get hd]; rfl) kk
theorem gs_putI (cl : gw_Cl ci C T N ty) (k0 : Nat) (z : Int) (d : decode Y.2.1 pc = .ok (.putfield index, 3)) (e9 : pc + 3 = pc') (hl0 : Cond.fieldLink Y.1.cls index (T k0).1 (T k0).2.1 (T k0).2.2.1 ∈ gw_W) (hk : k0 < N) (hfin : (T k0).2.2.2 = false) (hty : ty k0 = .int) (hs : sh q = some (0, ci, ds)) (hd : ds[k0]? = some (.inl 0)) (hz : (k0 : Int) = z) (kk : G Φ Y E x cells slots pc' lv st (hp Φ hb M sh (upc c q (updZ (c q) z v)))) : G Φ Y E x cells slots pc lv (vI v :: .ref (M + q) :: st) (hp Φ hb M sh c) := by
  refine gw_put cl k0 d e9 hl0 hk hfin (hp_o hs) (by rw [hty]; rfl) (by rw [hty]; rfl) (by rw [fl_len]; exact (List.getElem?_eq_some_iff.mp hd).1) ?_
  rw [hp_up (F := updZ (c q) z v) hs (by
    show Sum.inr (ci, fl M (updZ (c q) z v) 0 ds) = Sum.inr (ci, (fl M (c q) 0 ds).set k0 (vI v))
    rw [← hz, show ((k0 : Nat) : Int) = 0 + (k0 : Int) by omega, fl_set hd]
    rfl)]
  exact kk
theorem gs_putL (cl : gw_Cl ci C T N ty) (k0 : Nat) (z : Int) (d : decode Y.2.1 pc = .ok (.putfield index, 3)) (e9 : pc + 3 = pc') (hl0 : Cond.fieldLink Y.1.cls index (T k0).1 (T k0).2.1 (T k0).2.2.1 ∈ gw_W) (hk : k0 < N) (hfin : (T k0).2.2.2 = false) (hty : ty k0 = .long) (hs : sh q = some (0, ci, ds)) (hd : ds[k0]? = some (.inl 1)) (hz : (k0 : Int) = z) (kk : G Φ Y E x cells slots pc' lv st (hp Φ hb M sh (upc c q (updZ (c q) z v)))) : G Φ Y E x cells slots pc lv (vL v :: .ref (M + q) :: st) (hp Φ hb M sh c) := by
  refine gw_put cl k0 d e9 hl0 hk hfin (hp_o hs) (by rw [hty]; rfl) (by rw [hty]; rfl) (by rw [fl_len]; exact (List.getElem?_eq_some_iff.mp hd).1) ?_
  rw [hp_up (F := updZ (c q) z v) hs (by
    show Sum.inr (ci, fl M (updZ (c q) z v) 0 ds) = Sum.inr (ci, (fl M (c q) 0 ds).set k0 (vL v))
    rw [← hz, show ((k0 : Nat) : Int) = 0 + (k0 : Int) by omega, fl_set hd]
    rfl)]
  exact kk
theorem gs_putZ (cl : gw_Cl ci C T N ty) (k0 : Nat) (z : Int) (d : decode Y.2.1 pc = .ok (.putfield index, 3)) (e9 : pc + 3 = pc') (hl0 : Cond.fieldLink Y.1.cls index (T k0).1 (T k0).2.1 (T k0).2.2.1 ∈ gw_W) (hk : k0 < N) (hfin : (T k0).2.2.2 = false) (hty : ty k0 = .boolean) (hs : sh q = some (0, ci, ds)) (hd : ds[k0]? = some (.inl 0)) (hz : (k0 : Int) = z) (hv : 0 ≤ v ∧ v ≤ 1) (kk : G Φ Y E x cells slots pc' lv st (hp Φ hb M sh (upc c q (updZ (c q) z v)))) : G Φ Y E x cells slots pc lv (vI v :: .ref (M + q) :: st) (hp Φ hb M sh c) := by
  refine gw_put cl k0 d e9 hl0 hk hfin (hp_o hs) (by rw [hty]; exact gs_nz hv) (by rw [hty]; exact gs_fz hv) (by rw [fl_len]; exact (List.getElem?_eq_some_iff.mp hd).1) ?_
  rw [hp_up (F := updZ (c q) z v) hs (by
    show Sum.inr (ci, fl M (updZ (c q) z v) 0 ds) = Sum.inr (ci, (fl M (c q) 0 ds).set k0 (vI v))
    rw [← hz, show ((k0 : Nat) : Int) = 0 + (k0 : Int) by omega, fl_set hd]
    rfl)]
  exact kk
theorem gs_getIN (cl : gw_Cl ci C T N ty) (k0 : Nat) (z : Int) (d : decode Y.2.1 pc = .ok (.getfield index, 3)) (e9 : pc + 3 = pc') (hl0 : Cond.fieldLinkNest Y.1.cls index (T k0).1 (T k0).2.1 (T k0).2.2.1 host ∈ gw_NW) (hk : k0 < N) (hs : sh q = some (0, ci, ds)) (hd : ds[k0]? = some (.inl 0)) (hz : (k0 : Int) = z) (kk : G Φ Y E x cells slots pc' lv (vI (c q z) :: st) (hp Φ hb M sh c)) : G Φ Y E x cells slots pc lv (.ref (M + q) :: st) (hp Φ hb M sh c) := gw_getN cl k0 d e9 hl0 hk (hp_o hs) (by rw [fl_get hd, Int.zero_add, hz]; rfl) kk
theorem gs_getLN (cl : gw_Cl ci C T N ty) (k0 : Nat) (z : Int) (d : decode Y.2.1 pc = .ok (.getfield index, 3)) (e9 : pc + 3 = pc') (hl0 : Cond.fieldLinkNest Y.1.cls index (T k0).1 (T k0).2.1 (T k0).2.2.1 host ∈ gw_NW) (hk : k0 < N) (hs : sh q = some (0, ci, ds)) (hd : ds[k0]? = some (.inl 1)) (hz : (k0 : Int) = z) (kk : G Φ Y E x cells slots pc' lv (vL (c q z) :: st) (hp Φ hb M sh c)) : G Φ Y E x cells slots pc lv (.ref (M + q) :: st) (hp Φ hb M sh c) := gw_getN cl k0 d e9 hl0 hk (hp_o hs) (by rw [fl_get hd, Int.zero_add, hz]; rfl) kk
theorem gs_getRN (cl : gw_Cl ci C T N ty) (k0 : Nat) {r : Nat} (d : decode Y.2.1 pc = .ok (.getfield index, 3)) (e9 : pc + 3 = pc') (hl0 : Cond.fieldLinkNest Y.1.cls index (T k0).1 (T k0).2.1 (T k0).2.2.1 host ∈ gw_NW) (hk : k0 < N) (hs : sh q = some (0, ci, ds)) (hd : ds[k0]? = some (.inl (r + 2))) (kk : G Φ Y E x cells slots pc' lv (.ref (M + r) :: st) (hp Φ hb M sh c)) : G Φ Y E x cells slots pc lv (.ref (M + q) :: st) (hp Φ hb M sh c) := gw_getN cl k0 d e9 hl0 hk (hp_o hs) (by rw [fl_get hd]; rfl) kk
theorem gs_getKN (cl : gw_Cl ci C T N ty) (k0 : Nat) {w : Int} (d : decode Y.2.1 pc = .ok (.getfield index, 3)) (e9 : pc + 3 = pc') (hl0 : Cond.fieldLinkNest Y.1.cls index (T k0).1 (T k0).2.1 (T k0).2.2.1 host ∈ gw_NW) (hk : k0 < N) (hs : sh q = some (0, ci, ds)) (hd : ds[k0]? = some (.inr w)) (kk : G Φ Y E x cells slots pc' lv (vI w :: st) (hp Φ hb M sh c)) : G Φ Y E x cells slots pc lv (.ref (M + q) :: st) (hp Φ hb M sh c) := gw_getN cl k0 d e9 hl0 hk (hp_o hs) (by rw [fl_get hd]; rfl) kk
theorem gs_putIN (cl : gw_Cl ci C T N ty) (k0 : Nat) (z : Int) (d : decode Y.2.1 pc = .ok (.putfield index, 3)) (e9 : pc + 3 = pc') (hl0 : Cond.fieldLinkNest Y.1.cls index (T k0).1 (T k0).2.1 (T k0).2.2.1 host ∈ gw_NW) (hk : k0 < N) (hfin : (T k0).2.2.2 = false) (hty : ty k0 = .int) (hs : sh q = some (0, ci, ds)) (hd : ds[k0]? = some (.inl 0)) (hz : (k0 : Int) = z) (kk : G Φ Y E x cells slots pc' lv st (hp Φ hb M sh (upc c q (updZ (c q) z v)))) : G Φ Y E x cells slots pc lv (vI v :: .ref (M + q) :: st) (hp Φ hb M sh c) := by
  refine gw_putN cl k0 d e9 hl0 hk hfin (hp_o hs) (by rw [hty]; rfl) (by rw [hty]; rfl) (by rw [fl_len]; exact (List.getElem?_eq_some_iff.mp hd).1) ?_
  rw [hp_up (F := updZ (c q) z v) hs (by
    show Sum.inr (ci, fl M (updZ (c q) z v) 0 ds) = Sum.inr (ci, (fl M (c q) 0 ds).set k0 (vI v))
    rw [← hz, show ((k0 : Nat) : Int) = 0 + (k0 : Int) by omega, fl_set hd]
    rfl)]
  exact kk
theorem gs_putLN (cl : gw_Cl ci C T N ty) (k0 : Nat) (z : Int) (d : decode Y.2.1 pc = .ok (.putfield index, 3)) (e9 : pc + 3 = pc') (hl0 : Cond.fieldLinkNest Y.1.cls index (T k0).1 (T k0).2.1 (T k0).2.2.1 host ∈ gw_NW) (hk : k0 < N) (hfin : (T k0).2.2.2 = false) (hty : ty k0 = .long) (hs : sh q = some (0, ci, ds)) (hd : ds[k0]? = some (.inl 1)) (hz : (k0 : Int) = z) (kk : G Φ Y E x cells slots pc' lv st (hp Φ hb M sh (upc c q (updZ (c q) z v)))) : G Φ Y E x cells slots pc lv (vL v :: .ref (M + q) :: st) (hp Φ hb M sh c) := by
  refine gw_putN cl k0 d e9 hl0 hk hfin (hp_o hs) (by rw [hty]; rfl) (by rw [hty]; rfl) (by rw [fl_len]; exact (List.getElem?_eq_some_iff.mp hd).1) ?_
  rw [hp_up (F := updZ (c q) z v) hs (by
    show Sum.inr (ci, fl M (updZ (c q) z v) 0 ds) = Sum.inr (ci, (fl M (c q) 0 ds).set k0 (vL v))
    rw [← hz, show ((k0 : Nat) : Int) = 0 + (k0 : Int) by omega, fl_set hd]
    rfl)]
  exact kk
theorem gs_putZN (cl : gw_Cl ci C T N ty) (k0 : Nat) (z : Int) (d : decode Y.2.1 pc = .ok (.putfield index, 3)) (e9 : pc + 3 = pc') (hl0 : Cond.fieldLinkNest Y.1.cls index (T k0).1 (T k0).2.1 (T k0).2.2.1 host ∈ gw_NW) (hk : k0 < N) (hfin : (T k0).2.2.2 = false) (hty : ty k0 = .boolean) (hs : sh q = some (0, ci, ds)) (hd : ds[k0]? = some (.inl 0)) (hz : (k0 : Int) = z) (hv : 0 ≤ v ∧ v ≤ 1) (kk : G Φ Y E x cells slots pc' lv st (hp Φ hb M sh (upc c q (updZ (c q) z v)))) : G Φ Y E x cells slots pc lv (vI v :: .ref (M + q) :: st) (hp Φ hb M sh c) := by
  refine gw_putN cl k0 d e9 hl0 hk hfin (hp_o hs) (by rw [hty]; exact gs_nz hv) (by rw [hty]; exact gs_fz hv) (by rw [fl_len]; exact (List.getElem?_eq_some_iff.mp hd).1) ?_
  rw [hp_up (F := updZ (c q) z v) hs (by
    show Sum.inr (ci, fl M (updZ (c q) z v) 0 ds) = Sum.inr (ci, (fl M (c q) 0 ds).set k0 (vI v))
    rw [← hz, show ((k0 : Nat) : Int) = 0 + (k0 : Int) by omega, fl_set hd]
    rfl)]
  exact kk
theorem gs_ialdZ (d : decode Y.2.1 pc = .ok (.iaload, 1)) (e9 : pc + 1 = pc') (hs : sh q = some (1, n, [])) (hi : 0 ≤ i ∧ i < (n : Int)) (hn : n ≤ 2000000000) (k : G Φ Y E x cells slots pc' lv (vI (c q i) :: st) (hp Φ hb M sh c)) : G Φ Y E x cells slots pc lv (vI i :: .ref (M + q) :: st) (hp Φ hb M sh c) := gw_ialdZ d e9 (hp_i hs) hi hn k
theorem gs_laldZ (d : decode Y.2.1 pc = .ok (.laload, 1)) (e9 : pc + 1 = pc') (hs : sh q = some (2, n, [])) (hi : 0 ≤ i ∧ i < (n : Int)) (hn : n ≤ 2000000000) (k : G Φ Y E x cells slots pc' lv (vL (c q i) :: st) (hp Φ hb M sh c)) : G Φ Y E x cells slots pc lv (vI i :: .ref (M + q) :: st) (hp Φ hb M sh c) := gw_laldZ d e9 (hp_l hs) hi hn k
theorem gs_iastZ (d : decode Y.2.1 pc = .ok (.iastore, 1)) (e9 : pc + 1 = pc') (hs : sh q = some (1, n, [])) (hi : 0 ≤ i ∧ i < (n : Int)) (hn : n ≤ 2000000000) (k : G Φ Y E x cells slots pc' lv st (hp Φ hb M sh (upc c q (updZ (c q) i v)))) : G Φ Y E x cells slots pc lv (vI v :: vI i :: .ref (M + q) :: st) (hp Φ hb M sh c) := gw_iastZ d e9 (hp_i hs) hi hn (by rw [hp_upI hs]; exact k)
theorem gs_lastZ (d : decode Y.2.1 pc = .ok (.lastore, 1)) (e9 : pc + 1 = pc') (hs : sh q = some (2, n, [])) (hi : 0 ≤ i ∧ i < (n : Int)) (hn : n ≤ 2000000000) (k : G Φ Y E x cells slots pc' lv st (hp Φ hb M sh (upc c q (updZ (c q) i v)))) : G Φ Y E x cells slots pc lv (vL v :: vI i :: .ref (M + q) :: st) (hp Φ hb M sh c) := gw_lastZ d e9 (hp_l hs) hi hn (by rw [hp_upL hs]; exact k)
theorem gs_alenI (d : decode Y.2.1 pc = .ok (.arraylength, 1)) (e9 : pc + 1 = pc') (hs : sh q = some (1, n, [])) (k : G Φ Y E x cells slots pc' lv (vI n :: st) (hp Φ hb M sh c)) : G Φ Y E x cells slots pc lv (.ref (M + q) :: st) (hp Φ hb M sh c) := gw_alenI d e9 (hp_i hs) k
theorem gs_alenL (d : decode Y.2.1 pc = .ok (.arraylength, 1)) (e9 : pc + 1 = pc') (hs : sh q = some (2, n, [])) (k : G Φ Y E x cells slots pc' lv (vI n :: st) (hp Φ hb M sh c)) : G Φ Y E x cells slots pc lv (.ref (M + q) :: st) (hp Φ hb M sh c) := gw_alenL d e9 (hp_l hs) k
theorem gs_alenR (d : decode Y.2.1 pc = .ok (.arraylength, 1)) (e9 : pc + 1 = pc') (hs : sh q = some (3, n, [])) (k : G Φ Y E x cells slots pc' lv (vI n :: st) (hp Φ hb M sh c)) : G Φ Y E x cells slots pc lv (.ref (M + q) :: st) (hp Φ hb M sh c) := gw_alenR d e9 (hp_r hs) k
theorem gs_aaldZ (d : decode Y.2.1 pc = .ok (.aaload, 1)) (e9 : pc + 1 = pc') (hs : sh q = some (3, n, [])) (hi : 0 ≤ i ∧ i < (n : Int)) (hn : n ≤ 2000000000) (k : G Φ Y E x cells slots pc' lv (.ref (M + (c q i).toNat) :: st) (hp Φ hb M sh c)) : G Φ Y E x cells slots pc lv (vI i :: .ref (M + q) :: st) (hp Φ hb M sh c) := by
  refine gw_aald d e9 (hp_r hs) (i32_in hi hn) ?_
  show G Φ Y E x cells slots pc' lv (.ref (M + (c q ((i32 i).toNatClampNeg : Int)).toNat) :: st) _
  rw [i32_nn hi hn]
  exact k
theorem gs_aastZ (d : decode Y.2.1 pc = .ok (.aastore, 1)) (e9 : pc + 1 = pc') (hs : sh q = some (3, n, [])) (hs2 : sh q2 = some (0, 4, ds)) (hi : 0 ≤ i ∧ i < (n : Int)) (hn : n ≤ 2000000000) (k : G Φ Y E x cells slots pc' lv st (hp Φ hb M sh (upc c q (updZ (c q) i q2)))) : G Φ Y E x cells slots pc lv (.ref (M + q2) :: vI i :: .ref (M + q) :: st) (hp Φ hb M sh c) := by
  refine gw_aast d e9 (hp_r hs) (hp_o hs2) (i32_in hi hn) ?_
  rw [hp_up (F := updZ (c q) i q2) hs (by
    have e := i32_nn hi hn
    show gwR Φ n _ = gwR Φ n _
    congr 5
    funext j
    unfold va_up updZ
    by_cases hj : j = (i32 i).toNatClampNeg
    · rw [if_pos hj, if_pos (by omega), Int.toNat_natCast]
    · rw [if_neg hj, if_neg (by omega)])]
  exact k
theorem gs_copyZ (d : decode Y.2.1 pc = .ok (.invokestatic index, 3)) (e9 : pc + 3 = pc') (hl0 : Cond.methodLink Y.1.cls index arraycopyName ∈ gw_W) (hnat : Cond.native arraycopyName ∈ gw_W) (hstt : Cond.static arraycopyName ∈ gw_W) (hini : Cond.initialized "java/lang/System" ∈ gw_W)
    (hs : sh q = some (2, n, [])) (hs2 : sh q2 = some (2, n, [])) (hn : n ≤ 2000000000) (hfr : 1 ≤ Y.2.2.2.2.1.frames) (hlo : (st.map fun v => v.category).sum + (nativeFrameWords "java/lang/System" "arraycopy" 5 + 11) ≤ Y.2.2.2.2.1.locals)
    (k : G Φ Y E x cells slots pc' lv st (hp Φ hb M sh (upc c q2 (c q)))) : G Φ Y E x cells slots pc lv (vI n :: vI 0 :: .ref (M + q2) :: vI 0 :: .ref (M + q) :: st) (hp Φ hb M sh c) := gw_copyZ d e9 hl0 hnat hstt hini (hp_l hs) (hp_l hs2) hn hfr hlo (by rw [hp_upL hs2]; exact k)
end SR
/-! Grid over the world -/
def shG (sh : Nat → Option gSh) (g a : Nat) (w : Int) (n : Nat) : Prop := sh g = some (0, 1, [.inr w, .inl (a + 2)]) ∧ sh a = some (2, n, [])
section
variable {Φ : gwC} {hb : gwHp} {M : Nat} {sh : Nat → Option gSh} {c : Nat → Int → Int} {g a g2 a2 n : Nat} {w r k v : Int} {K : Option Value → gwHp → Prop}
theorem k_at (hG : shG sh g a w n) (hw : w ≤ 1000) (hr : 0 ≤ r ∧ r ≤ 1000) (hk : 0 ≤ k ∧ k < w) (hi : r * w + k < n) (hn : n ≤ 1000000) (hK : K (some (vL (c a (r * w + k)))) (hp Φ hb M sh c)) : gw_Con Φ mX1_at none [.ref (M + g), vI r, vI k] (hp Φ hb M sh c) K := c_at (hp_o hG.1) (hp_l hG.2) hw hr hk hi hn hK
theorem k_put (hG : shG sh g a w n) (hw : w ≤ 1000) (hr : 0 ≤ r ∧ r ≤ 1000) (hk : 0 ≤ k ∧ k < w) (hi : r * w + k < n) (hn : n ≤ 1000000) (hK : K none (hp Φ hb M sh (upc c a (updZ (c a) (r * w + k) v)))) : gw_Con Φ mX1_put none [.ref (M + g), vI r, vI k, vL v] (hp Φ hb M sh c) K := c_put (hp_o hG.1) (hp_l hG.2) hw hr hk hi hn (by rw [hp_upL hG.2]; exact hK)
theorem k_Gcopy (hG : shG sh g a w n) (hG2 : shG sh g2 a2 w n) (hn : n ≤ 1000000) (hK : K none (hp Φ hb M sh (upc c a (c a2)))) : gw_Con Φ mX1_copy none [.ref (M + g), .ref (M + g2)] (hp Φ hb M sh c) K := c_Gcopy (hp_o hG.1) (hp_l hG.2) (hp_o hG2.1) (hp_l hG2.2) hn (by rw [hp_upL hG.2]; exact hK)
theorem k_clear {row b col last D : Int} (hG : shG sh g a w n) (hw : w ≤ 1000) (hro : 0 ≤ row ∧ row ≤ 1000) (hb0 : 0 ≤ b ∧ b ≤ 1000) (hne : row ≠ b) (hco : 0 ≤ col ∧ col < w) (hla : 0 ≤ last ∧ last < w) (hir : row * w + w ≤ n) (hib : b * w + w ≤ n) (hn : n ≤ 1000000) (hD : R64 D) (hD0 : ¬ D = 0) (hR : ∀ q, 0 ≤ q → q ≤ last → R64 (c a (row * w + q) * c a (b * w + col) - c a (row * w + col) * c a (b * w + q))) (hK : K none (hp Φ hb M sh (upc c a (clr (c a) w row b col D (last + 1))))) : gw_Con Φ mX1_clear none [.ref (M + g), vI row, vI b, vI col, vI last, vL D] (hp Φ hb M sh c) K := c_clear (hp_o hG.1) (hp_l hG.2) hw hro hb0 hne hco hla hir hib hn hD hD0 hR (by rw [hp_upL hG.2]; exact hK)
end
end GS
