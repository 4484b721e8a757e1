section FF
noncomputable def f_X0_unknown (th : Nat) (p1 : Int) (c : W0) : Option Int :=
  gd ((0 ≤ p1 ∧ p1 < 4) ∧ (0 ≤ (c th 0) ∧ (c th 0) < 5)) <|
  some (c (th + 2) (p1 * 5 + (c th 0)))
noncomputable def f_X6_namedBy (th : Nat) (p1 : Int) (c : W0) : Option Int :=
  gd ((0 ≤ p1 ∧ p1 < 4)) <|
  some (c (th + 2) p1)
noncomputable def b_X0_rowWith_2 (th : Nat) (p1 : Int) (c : W0) (κ : Option Int) (rec : Int → Option Int) (l2 : Int) : Option Int :=
  gd (R32 l2 ∧ R32 (c th 0)) <|
  bq ((c th 0) ≤ l2) (
    κ) (
    gd ((0 ≤ l2 ∧ l2 < 4) ∧ (0 ≤ p1 ∧ p1 < 5)) <|
    gd (R64 (c (th + 2) (l2 * 5 + p1))) <|
    bq ((c (th + 2) (l2 * 5 + p1)) = 0) (
      rec (l2 + 1)) (
      some l2))
noncomputable def f_X0_rowWith_2 (th : Nat) (p1 : Int) (c : W0) (κ : Option Int) : Nat → Int → Option Int
  | 0, _ => none
  | n + 1, l2 => b_X0_rowWith_2 th p1 c κ (f_X0_rowWith_2 th p1 c κ n) l2
theorem f_X0_rowWith_2_s {th : Nat} {p1 : Int} {c : W0} {κ : Option Int} {n : Nat} {l2 : Int} : f_X0_rowWith_2 th p1 c κ (n + 1) l2 = b_X0_rowWith_2 th p1 c κ (f_X0_rowWith_2 th p1 c κ n) l2 := rfl
noncomputable def f_X0_rowWith (th : Nat) (p1 : Int) (c : W0) : Option Int :=
  f_X0_rowWith_2 th p1 c (
      some (-1)) LF p1
noncomputable def b_X0_swap_2 (th : Nat) (p1 : Int) (p2 : Int) (κ : W0 → Option (Int × W0)) (rec : Int → W0 → Option (Int × W0)) (l3 : Int) (c : W0) : Option (Int × W0) :=
  gd (R32 l3 ∧ R32 (c th 0)) <|
  bq ((c th 0) < l3) (
    κ c) (
    gd ((0 ≤ p1 ∧ p1 < 4) ∧ (0 ≤ l3 ∧ l3 < 5)) <|
    gd ((0 ≤ p2 ∧ p2 < 4) ∧ (0 ≤ l3 ∧ l3 < 5)) <|
    gd ((0 ≤ p1 ∧ p1 < 4) ∧ (0 ≤ l3 ∧ l3 < 5)) <|
    sto c (th + 2) (p1 * 5 + l3) (c (th + 2) (p2 * 5 + l3)) fun c1 =>
    gd ((0 ≤ p2 ∧ p2 < 4) ∧ (0 ≤ l3 ∧ l3 < 5)) <|
    sto c1 (th + 2) (p2 * 5 + l3) (c (th + 2) (p1 * 5 + l3)) fun c2 =>
    rec (l3 + 1) c2)
noncomputable def f_X0_swap_2 (th : Nat) (p1 : Int) (p2 : Int) (κ : W0 → Option (Int × W0)) : Nat → Int → W0 → Option (Int × W0)
  | 0, _, _ => none
  | n + 1, l3, c => b_X0_swap_2 th p1 p2 κ (f_X0_swap_2 th p1 p2 κ n) l3 c
theorem f_X0_swap_2_s {th : Nat} {p1 : Int} {p2 : Int} {κ : W0 → Option (Int × W0)} {n : Nat} {l3 : Int} {c : W0} : f_X0_swap_2 th p1 p2 κ (n + 1) l3 c = b_X0_swap_2 th p1 p2 κ (f_X0_swap_2 th p1 p2 κ n) l3 c := rfl
noncomputable def f_X0_swap (th : Nat) (p1 : Int) (p2 : Int) (c : W0) : Option (Int × W0) :=
  f_X0_swap_2 th p1 p2 (fun c1 =>
      some (0, c1)) LF 0 c
noncomputable def b_X0_eliminate_35 (th : Nat) (l1 : Int) (κ : W0 → Option (Int × W0)) (rec : Int → W0 → Option (Int × W0)) (l3 : Int) (c : W0) : Option (Int × W0) :=
  gd (R32 l3 ∧ R32 (c th 0)) <|
  bq ((c th 0) ≤ l3) (
    κ c) (
    gd (R32 l3 ∧ R32 l1) <|
    bq (l3 = l1) (
      rec (l3 + 1) c) (
      gd (clG (c (th + 2)) 5 4 l3 l1 l1 (c th 0) (c th 1)) <|
      stw c (th + 2) (clr (c (th + 2)) 5 l3 l1 l1 (c th 1) ((c th 0) + 1)) fun c1 =>
      rec (l3 + 1) c1))
noncomputable def f_X0_eliminate_35 (th : Nat) (l1 : Int) (κ : W0 → Option (Int × W0)) : Nat → Int → W0 → Option (Int × W0)
  | 0, _, _ => none
  | n + 1, l3, c => b_X0_eliminate_35 th l1 κ (f_X0_eliminate_35 th l1 κ n) l3 c
theorem f_X0_eliminate_35_s {th : Nat} {l1 : Int} {κ : W0 → Option (Int × W0)} {n : Nat} {l3 : Int} {c : W0} : f_X0_eliminate_35 th l1 κ (n + 1) l3 c = b_X0_eliminate_35 th l1 κ (f_X0_eliminate_35 th l1 κ n) l3 c := rfl
noncomputable def b_X0_eliminate_7 (th : Nat) (κ : W0 → Option (Int × W0)) (rec : Int → W0 → Option (Int × W0)) (l1 : Int) (c : W0) : Option (Int × W0) :=
  gd (R32 l1 ∧ R32 (c th 0)) <|
  bq ((c th 0) ≤ l1) (
    κ c) (
    cv (f_X0_rowWith th l1 c) fun v1 =>
    gd (R32 v1) <|
    bq (0 ≤ v1) (
      cl (f_X0_swap th v1 l1 c) fun _ c2 =>
      f_X0_eliminate_35 th l1 (fun c4 =>
          gd ((0 ≤ l1 ∧ l1 < 4) ∧ (0 ≤ l1 ∧ l1 < 5)) <|
          sto c4 th 1 (c4 (th + 2) (l1 * 5 + l1)) fun c5 =>
          rec (l1 + 1) c5) LF 0 c2) (
      some (0, c)))
noncomputable def f_X0_eliminate_7 (th : Nat) (κ : W0 → Option (Int × W0)) : Nat → Int → W0 → Option (Int × W0)
  | 0, _, _ => none
  | n + 1, l1, c => b_X0_eliminate_7 th κ (f_X0_eliminate_7 th κ n) l1 c
theorem f_X0_eliminate_7_s {th : Nat} {κ : W0 → Option (Int × W0)} {n : Nat} {l1 : Int} {c : W0} : f_X0_eliminate_7 th κ (n + 1) l1 c = b_X0_eliminate_7 th κ (f_X0_eliminate_7 th κ n) l1 c := rfl
noncomputable def f_X0_eliminate (th : Nat) (c : W0) : Option (Int × W0) :=
  sto c th 1 1 fun c1 =>
  f_X0_eliminate_7 th (fun c2 =>
      some (1, c2)) LF 0 c1
noncomputable def b_X0_solveDuals_39 (th : Nat) (p1 : Nat) (l2 : Int) (l3 : Int) (κ : W0 → Option (Int × W0)) (rec : Int → W0 → Option (Int × W0)) (l4 : Int) (c : W0) : Option (Int × W0) :=
  gd (R32 l4 ∧ R32 (c th 0)) <|
  bq ((c th 0) ≤ l4) (
    κ c) (
    cv (f_X2_firstFactor (p1 + 1) l4 l3 c) fun v1 =>
    gd (R32 v1) <|
    gd ((0 ≤ l2 ∧ l2 < 4) ∧ (0 ≤ l4 ∧ l4 < 5)) <|
    sto c (th + 2) (l2 * 5 + l4) v1 fun c2 =>
    rec (l4 + 1) c2)
noncomputable def f_X0_solveDuals_39 (th : Nat) (p1 : Nat) (l2 : Int) (l3 : Int) (κ : W0 → Option (Int × W0)) : Nat → Int → W0 → Option (Int × W0)
  | 0, _, _ => none
  | n + 1, l4, c => b_X0_solveDuals_39 th p1 l2 l3 κ (f_X0_solveDuals_39 th p1 l2 l3 κ n) l4 c
theorem f_X0_solveDuals_39_s {th : Nat} {p1 : Nat} {l2 : Int} {l3 : Int} {κ : W0 → Option (Int × W0)} {n : Nat} {l4 : Int} {c : W0} : f_X0_solveDuals_39 th p1 l2 l3 κ (n + 1) l4 c = b_X0_solveDuals_39 th p1 l2 l3 κ (f_X0_solveDuals_39 th p1 l2 l3 κ n) l4 c := rfl
noncomputable def b_X0_solveDuals_19 (th : Nat) (p1 : Nat) (κ : W0 → Option (Int × W0)) (rec : Int → W0 → Option (Int × W0)) (l2 : Int) (c : W0) : Option (Int × W0) :=
  gd (R32 l2 ∧ R32 (c th 0)) <|
  bq ((c th 0) ≤ l2) (
    κ c) (
    cv (f_X6_namedBy (p1 + 4) l2 c) fun v1 =>
    f_X0_solveDuals_39 th p1 l2 v1 (fun c2 =>
        cv (f_X2_columnProfit (p1 + 1) v1 c2) fun v3 =>
        gd (R32 v3) <|
        gd ((0 ≤ l2 ∧ l2 < 4) ∧ (0 ≤ (c2 th 0) ∧ (c2 th 0) < 5)) <|
        sto c2 (th + 2) (l2 * 5 + (c2 th 0)) v3 fun c4 =>
        rec (l2 + 1) c4) LF 0 c)
noncomputable def f_X0_solveDuals_19 (th : Nat) (p1 : Nat) (κ : W0 → Option (Int × W0)) : Nat → Int → W0 → Option (Int × W0)
  | 0, _, _ => none
  | n + 1, l2, c => b_X0_solveDuals_19 th p1 κ (f_X0_solveDuals_19 th p1 κ n) l2 c
theorem f_X0_solveDuals_19_s {th : Nat} {p1 : Nat} {κ : W0 → Option (Int × W0)} {n : Nat} {l2 : Int} {c : W0} : f_X0_solveDuals_19 th p1 κ (n + 1) l2 c = b_X0_solveDuals_19 th p1 κ (f_X0_solveDuals_19 th p1 κ n) l2 c := rfl
noncomputable def f_X0_solveDuals (th : Nat) (p1 : Nat) (c : W0) : Option (Int × W0) :=
  sto c th 0 (c (p1 + 1) 1) fun c1 =>
  f_X0_solveDuals_19 th p1 (fun c2 =>
      cl (f_X0_eliminate th c2) fun v3 c4 =>
      gd (0 ≤ v3 ∧ v3 ≤ 1) <|
      some (v3, c4)) LF 0 c1
noncomputable def b_X0_solveBasis_46 (th : Nat) (p1 : Nat) (p2 : Int) (l3 : Int) (l4 : Int) (κ : W0 → Option (Int × W0)) (rec : Int → W0 → Option (Int × W0)) (l5 : Int) (c : W0) : Option (Int × W0) :=
  gd (R32 l5 ∧ R32 (c th 0)) <|
  bq ((c th 0) ≤ l5) (
    κ c) (
    cv (f_X2_firstFactor p1 l5 l4 c) fun v1 =>
    gd (R32 v1) <|
    gd ((0 ≤ l5 ∧ l5 < 4) ∧ (0 ≤ l3 ∧ l3 < 5)) <|
    sto c (th + 2) (l5 * 5 + l3) v1 fun c2 =>
    rec (l5 + 1) c2)
noncomputable def f_X0_solveBasis_46 (th : Nat) (p1 : Nat) (p2 : Int) (l3 : Int) (l4 : Int) (κ : W0 → Option (Int × W0)) : Nat → Int → W0 → Option (Int × W0)
  | 0, _, _ => none
  | n + 1, l5, c => b_X0_solveBasis_46 th p1 p2 l3 l4 κ (f_X0_solveBasis_46 th p1 p2 l3 l4 κ n) l5 c
theorem f_X0_solveBasis_46_s {th : Nat} {p1 : Nat} {p2 : Int} {l3 : Int} {l4 : Int} {κ : W0 → Option (Int × W0)} {n : Nat} {l5 : Int} {c : W0} : f_X0_solveBasis_46 th p1 p2 l3 l4 κ (n + 1) l5 c = b_X0_solveBasis_46 th p1 p2 l3 l4 κ (f_X0_solveBasis_46 th p1 p2 l3 l4 κ n) l5 c := rfl
noncomputable def b_X0_solveBasis_19 (th : Nat) (p1 : Nat) (p2 : Int) (κ : W0 → Option (Int × W0)) (rec : Int → Int → W0 → Option (Int × W0)) (l3 : Int) (l4 : Int) (c : W0) : Option (Int × W0) :=
  gd (R32 l4 ∧ R32 ((c p1 0) + (c th 0))) <|
  bq (((c p1 0) + (c th 0)) ≤ l4) (
    κ c) (
    gd (R32 (iandZ (ishrZ p2 l4) 1)) <|
    bq ((iandZ (ishrZ p2 l4) 1) = 1) (
      f_X0_solveBasis_46 th p1 p2 l3 l4 (fun c1 =>
          rec (l3 + 1) (l4 + 1) c1) LF 0 c) (
      rec l3 (l4 + 1) c))
noncomputable def f_X0_solveBasis_19 (th : Nat) (p1 : Nat) (p2 : Int) (κ : W0 → Option (Int × W0)) : Nat → Int → Int → W0 → Option (Int × W0)
  | 0, _, _, _ => none
  | n + 1, l3, l4, c => b_X0_solveBasis_19 th p1 p2 κ (f_X0_solveBasis_19 th p1 p2 κ n) l3 l4 c
theorem f_X0_solveBasis_19_s {th : Nat} {p1 : Nat} {p2 : Int} {κ : W0 → Option (Int × W0)} {n : Nat} {l3 : Int} {l4 : Int} {c : W0} : f_X0_solveBasis_19 th p1 p2 κ (n + 1) l3 l4 c = b_X0_solveBasis_19 th p1 p2 κ (f_X0_solveBasis_19 th p1 p2 κ n) l3 l4 c := rfl
noncomputable def b_X0_solveBasis_92 (th : Nat) (p1 : Nat) (κ : W0 → Option (Int × W0)) (rec : Int → W0 → Option (Int × W0)) (l4 : Int) (c : W0) : Option (Int × W0) :=
  gd (R32 l4 ∧ R32 (c th 0)) <|
  bq ((c th 0) ≤ l4) (
    κ c) (
    cv (f_X2_bound p1 l4 c) fun v1 =>
    gd (R32 v1) <|
    gd ((0 ≤ l4 ∧ l4 < 4) ∧ (0 ≤ (c th 0) ∧ (c th 0) < 5)) <|
    sto c (th + 2) (l4 * 5 + (c th 0)) v1 fun c2 =>
    rec (l4 + 1) c2)
noncomputable def f_X0_solveBasis_92 (th : Nat) (p1 : Nat) (κ : W0 → Option (Int × W0)) : Nat → Int → W0 → Option (Int × W0)
  | 0, _, _ => none
  | n + 1, l4, c => b_X0_solveBasis_92 th p1 κ (f_X0_solveBasis_92 th p1 κ n) l4 c
theorem f_X0_solveBasis_92_s {th : Nat} {p1 : Nat} {κ : W0 → Option (Int × W0)} {n : Nat} {l4 : Int} {c : W0} : f_X0_solveBasis_92 th p1 κ (n + 1) l4 c = b_X0_solveBasis_92 th p1 κ (f_X0_solveBasis_92 th p1 κ n) l4 c := rfl
noncomputable def f_X0_solveBasis (th : Nat) (p1 : Nat) (p2 : Int) (c : W0) : Option (Int × W0) :=
  sto c th 0 (c p1 1) fun c1 =>
  f_X0_solveBasis_19 th p1 p2 (fun c2 =>
      f_X0_solveBasis_92 th p1 (fun c3 =>
          cl (f_X0_eliminate th c3) fun v4 c5 =>
          gd (0 ≤ v4 ∧ v4 ≤ 1) <|
          some (v4, c5)) LF 0 c2) LF 0 0 c1
noncomputable def f_X7_copy (th : Nat) (p1 : Nat) (c : W0) : Option (Int × W0) :=
  sto c th 0 (c p1 0) fun c1 =>
  stw c1 (th + 2) (c1 (p1 + 2)) fun c2 =>
  some (0, c2)
noncomputable def f_X7_codeAt (th : Nat) (p1 : Int) (c : W0) : Option Int :=
  gd ((0 ≤ p1 ∧ p1 < 80)) <|
  some (c (th + 2) p1)
noncomputable def f_X3_take (th : Nat) (p1 : Int) (c : W0) : Option (Int × W0) :=
  gd (R32 (c th 2) ∧ R32 (c (th + 1) 0)) <|
  bq ((c (th + 1) 0) ≤ (c th 2)) (
    some (0, c)) (
    cv (f_X7_codeAt (th + 1) (c th 2) c) fun v1 =>
    gd (R32 v1 ∧ R32 p1) <|
    bq (v1 = p1) (
      sto c th 2 ((c th 2) + 1) fun c2 =>
      some (1, c2)) (
      some (0, c)))
noncomputable def f_X3_nextIsDigit (th : Nat) (p1 : Int) (p2 : Int) (c : W0) : Option Int :=
  gd (R32 (c th 2) ∧ R32 (c (th + 1) 0)) <|
  bq ((c (th + 1) 0) ≤ (c th 2)) (
    some 0) (
    cv (f_X7_codeAt (th + 1) (c th 2) c) fun v1 =>
    gd (R32 v1 ∧ R32 p1) <|
    bq (v1 < p1) (
      some 0) (
      cv (f_X7_codeAt (th + 1) (c th 2) c) fun v2 =>
      gd (R32 v2 ∧ R32 p2) <|
      bq (p2 < v2) (
        some 0) (
        some 1)))
noncomputable def f_X3_takeDigit (th : Nat) (c : W0) : Option (Int × W0) :=
  cv (f_X7_codeAt (th + 1) (c th 2) c) fun v1 =>
  sto c th 2 ((c th 2) + 1) fun c2 =>
  some ((v1 - 48), c2)
noncomputable def b_X3_takeFactors_2 (th : Nat) (p1 : Int) (κ : W0 → Option (Int × W0)) (rec : Int → W0 → Option (Int × W0)) (l2 : Int) (c : W0) : Option (Int × W0) :=
  gd (R32 l2 ∧ R32 (c (th + 4) 0)) <|
  bq ((c (th + 4) 0) ≤ l2) (
    κ c) (
    gd (R32 l2) <|
    jn (fun (c2 : W0) =>
        cl (f_X3_take th 45 c2) fun v3 c4 =>
        gd (R32 v3) <|
        jn (fun (v6 : Int) =>
            gd (R32 v6) <|
            jn (fun (v8 : Int) =>
                cv (f_X3_nextIsDigit th v8 57 c4) fun v9 =>
                gd (R32 v9) <|
                bq (v9 = 0) (
                  some (0, c4)) (
                  cl (f_X3_takeDigit th c4) fun v10 c11 =>
                  gd (R32 (v6 * v10)) <|
                  gd ((0 ≤ p1 ∧ p1 < 5) ∧ (0 ≤ l2 ∧ l2 < 5)) <|
                  sto c11 (th + 6) (p1 * 5 + l2) (v6 * v10) fun c12 =>
                  rec (l2 + 1) c12)) fun k7 =>
            bq (0 ≤ v6) (
              k7 48) (
              k7 49)) fun k5 =>
        bq (v3 = 0) (
          k5 1) (
          k5 (-1))) fun k1 =>
    bq (l2 ≤ 0) (
      k1 c) (
      cl (f_X3_take th 44 c) fun v13 c14 =>
      gd (R32 v13) <|
      bq (v13 = 0) (
        some (0, c14)) (
        k1 c14)))
noncomputable def f_X3_takeFactors_2 (th : Nat) (p1 : Int) (κ : W0 → Option (Int × W0)) : Nat → Int → W0 → Option (Int × W0)
  | 0, _, _ => none
  | n + 1, l2, c => b_X3_takeFactors_2 th p1 κ (f_X3_takeFactors_2 th p1 κ n) l2 c
theorem f_X3_takeFactors_2_s {th : Nat} {p1 : Int} {κ : W0 → Option (Int × W0)} {n : Nat} {l2 : Int} {c : W0} : f_X3_takeFactors_2 th p1 κ (n + 1) l2 c = b_X3_takeFactors_2 th p1 κ (f_X3_takeFactors_2 th p1 κ n) l2 c := rfl
noncomputable def f_X3_takeFactors (th : Nat) (p1 : Int) (c : W0) : Option (Int × W0) :=
  f_X3_takeFactors_2 th p1 (fun c1 =>
      some (1, c1)) LF 0 c
noncomputable def f_X3_takeBound (th : Nat) (p1 : Int) (c : W0) : Option (Int × W0) :=
  cv (f_X3_nextIsDigit th 48 57 c) fun v1 =>
  gd (R32 v1) <|
  bq (v1 = 0) (
    some (0, c)) (
    cl (f_X3_takeDigit th c) fun v2 c3 =>
    gd (R32 v2) <|
    jn (fun (v5 : Int) (c6 : W0) =>
        cl (f_X2_putBound (th + 4) p1 v5 c6) fun _ c7 =>
        some (1, c7)) fun k4 =>
    bq (v2 ≤ 0) (
      k4 v2 c3) (
      cv (f_X3_nextIsDigit th 48 57 c3) fun v9 =>
      gd (R32 v9) <|
      bq (v9 = 0) (
        k4 v2 c3) (
        cl (f_X3_takeDigit th c3) fun v10 c11 =>
        k4 ((10 * v2) + v10) c11)))
noncomputable def f_X3_takeConstraint (th : Nat) (c : W0) : Option (Int × W0) :=
  cl (f_X2_add (th + 4) 0 c) fun v1 c2 =>
  cl (f_X3_take th 59 c2) fun v3 c4 =>
  gd (R32 v3) <|
  bq (v3 = 0) (
    some (0, c4)) (
    cl (f_X3_take th 99 c4) fun v5 c6 =>
    gd (R32 v5) <|
    bq (v5 = 0) (
      some (0, c6)) (
      cl (f_X3_takeFactors th v1 c6) fun v7 c8 =>
      gd (R32 v7) <|
      bq (v7 = 0) (
        some (0, c8)) (
        cl (f_X3_take th 60 c8) fun v9 c10 =>
        gd (R32 v9) <|
        bq (v9 = 0) (
          some (0, c10)) (
          cl (f_X3_takeBound th v1 c10) fun v11 c12 =>
          gd (R32 v11) <|
          bq (v11 = 0) (
            some (0, c12)) (
            some (1, c12))))))
noncomputable def b_X3_read_76 (th : Nat) (p1 : Nat) (κ : W0 → Option (Int × W0)) (rec : Int → W0 → Option (Int × W0)) (l2 : Int) (c : W0) : Option (Int × W0) :=
  gd (R32 l2) <|
  bq (4 ≤ l2) (
    κ c) (
    gd (R32 (c th 2) ∧ R32 (c (th + 1) 0)) <|
    bq ((c (th + 1) 0) ≤ (c th 2)) (
      κ c) (
      cl (f_X3_takeConstraint th c) fun v1 c2 =>
      gd (R32 v1) <|
      bq (v1 = 0) (
        some (0, c2)) (
        rec (l2 + 1) c2)))
noncomputable def f_X3_read_76 (th : Nat) (p1 : Nat) (κ : W0 → Option (Int × W0)) : Nat → Int → W0 → Option (Int × W0)
  | 0, _, _ => none
  | n + 1, l2, c => b_X3_read_76 th p1 κ (f_X3_read_76 th p1 κ n) l2 c
theorem f_X3_read_76_s {th : Nat} {p1 : Nat} {κ : W0 → Option (Int × W0)} {n : Nat} {l2 : Int} {c : W0} : f_X3_read_76 th p1 κ (n + 1) l2 c = b_X3_read_76 th p1 κ (f_X3_read_76 th p1 κ n) l2 c := rfl
noncomputable def f_X3_read (th : Nat) (p1 : Nat) (c : W0) : Option (Int × W0) :=
  cl (f_X7_copy (th + 1) p1 c) fun _ c1 =>
  sto c1 th 2 0 fun c3 =>
  cl (f_X3_take th 118 c3) fun v4 c5 =>
  gd (R32 v4) <|
  bq (v4 = 0) (
    some (0, c5)) (
    cv (f_X3_nextIsDigit th 49 52 c5) fun v6 =>
    gd (R32 v6) <|
    bq (v6 = 0) (
      some (0, c5)) (
      cl (f_X3_takeDigit th c5) fun v7 c8 =>
      cl (f_X2_empty (th + 4) v7 c8) fun _ c9 =>
      cl (f_X3_take th 59 c9) fun v11 c12 =>
      gd (R32 v11) <|
      bq (v11 = 0) (
        some (0, c12)) (
        cl (f_X3_take th 109 c12) fun v13 c14 =>
        gd (R32 v13) <|
        bq (v13 = 0) (
          some (0, c14)) (
          cl (f_X3_takeFactors th 4 c14) fun v15 c16 =>
          gd (R32 v15) <|
          bq (v15 = 0) (
            some (0, c16)) (
            f_X3_read_76 th p1 (fun c17 =>
                gd (R32 (c17 th 2) ∧ R32 (c17 (th + 1) 0)) <|
                bq ((c17 th 2) = (c17 (th + 1) 0)) (
                  some (1, c17)) (
                  some (0, c17))) LF 0 c16)))))
noncomputable def f_X6_copy (th : Nat) (p1 : Nat) (c : W0) : Option (Int × W0) :=
  sto c th 0 (c p1 0) fun c1 =>
  sto c1 th 1 (c1 p1 1) fun c2 =>
  sto c2 th 2 (c2 p1 2) fun c3 =>
  stw c3 (th + 2) (c3 (p1 + 2)) fun c4 =>
  stw c4 (th + 4) (c4 (p1 + 4)) fun c5 =>
  some (0, c5)
noncomputable def f_X4_copy (th : Nat) (p1 : Nat) (c : W0) : Option (Int × W0) :=
  cl (f_X2_copy (th + 1) (p1 + 1) c) fun _ c1 =>
  cl (f_X6_copy (th + 4) (p1 + 4) c1) fun _ c3 =>
  sto c3 th 2 (c3 p1 2) fun c5 =>
  sto c5 th 3 (c5 p1 3) fun c6 =>
  sto c6 th 4 (c6 p1 4) fun c7 =>
  sto c7 th 5 (c7 p1 5) fun c8 =>
  some (0, c8)
noncomputable def b_X6_start_59 (th : Nat) (p1 : Nat) (l2 : Int) (κ : W0 → Option (Int × W0)) (rec : Int → W0 → Option (Int × W0)) (l3 : Int) (c : W0) : Option (Int × W0) :=
  gd (R32 l3 ∧ R32 (c th 1)) <|
  bq ((c th 1) ≤ l3) (
    κ c) (
    cv (f_X2_firstFactor p1 l2 l3 c) fun v1 =>
    gd (R32 v1) <|
    gd ((0 ≤ l2 ∧ l2 < 5) ∧ (0 ≤ l3 ∧ l3 < 9)) <|
    sto c (th + 4) (l2 * 9 + l3) v1 fun c2 =>
    rec (l3 + 1) c2)
noncomputable def f_X6_start_59 (th : Nat) (p1 : Nat) (l2 : Int) (κ : W0 → Option (Int × W0)) : Nat → Int → W0 → Option (Int × W0)
  | 0, _, _ => none
  | n + 1, l3, c => b_X6_start_59 th p1 l2 κ (f_X6_start_59 th p1 l2 κ n) l3 c
theorem f_X6_start_59_s {th : Nat} {p1 : Nat} {l2 : Int} {κ : W0 → Option (Int × W0)} {n : Nat} {l3 : Int} {c : W0} : f_X6_start_59 th p1 l2 κ (n + 1) l3 c = b_X6_start_59 th p1 l2 κ (f_X6_start_59 th p1 l2 κ n) l3 c := rfl
noncomputable def b_X6_start_33 (th : Nat) (p1 : Nat) (κ : W0 → Option (Int × W0)) (rec : Int → W0 → Option (Int × W0)) (l2 : Int) (c : W0) : Option (Int × W0) :=
  gd (R32 l2 ∧ R32 (c th 0)) <|
  bq ((c th 0) ≤ l2) (
    κ c) (
    gd (R32 ((c p1 0) + l2)) <|
    gd ((0 ≤ l2 ∧ l2 < 4)) <|
    sto c (th + 2) l2 ((c p1 0) + l2) fun c1 =>
    f_X6_start_59 th p1 l2 (fun c2 =>
        cv (f_X2_bound p1 l2 c2) fun v3 =>
        gd (R32 v3) <|
        gd ((0 ≤ l2 ∧ l2 < 5) ∧ (0 ≤ (c2 th 1) ∧ (c2 th 1) < 9)) <|
        sto c2 (th + 4) (l2 * 9 + (c2 th 1)) v3 fun c4 =>
        rec (l2 + 1) c4) LF 0 c1)
noncomputable def f_X6_start_33 (th : Nat) (p1 : Nat) (κ : W0 → Option (Int × W0)) : Nat → Int → W0 → Option (Int × W0)
  | 0, _, _ => none
  | n + 1, l2, c => b_X6_start_33 th p1 κ (f_X6_start_33 th p1 κ n) l2 c
theorem f_X6_start_33_s {th : Nat} {p1 : Nat} {κ : W0 → Option (Int × W0)} {n : Nat} {l2 : Int} {c : W0} : f_X6_start_33 th p1 κ (n + 1) l2 c = b_X6_start_33 th p1 κ (f_X6_start_33 th p1 κ n) l2 c := rfl
noncomputable def b_X6_start_115 (th : Nat) (p1 : Nat) (κ : W0 → Option (Int × W0)) (rec : Int → W0 → Option (Int × W0)) (l2 : Int) (c : W0) : Option (Int × W0) :=
  gd (R32 l2 ∧ R32 (c th 1)) <|
  bq ((c th 1) ≤ l2) (
    κ c) (
    cv (f_X2_columnProfit p1 l2 c) fun v1 =>
    gd (R32 v1) <|
    gd ((0 ≤ (c th 0) ∧ (c th 0) < 5) ∧ (0 ≤ l2 ∧ l2 < 9)) <|
    sto c (th + 4) ((c th 0) * 9 + l2) v1 fun c2 =>
    rec (l2 + 1) c2)
noncomputable def f_X6_start_115 (th : Nat) (p1 : Nat) (κ : W0 → Option (Int × W0)) : Nat → Int → W0 → Option (Int × W0)
  | 0, _, _ => none
  | n + 1, l2, c => b_X6_start_115 th p1 κ (f_X6_start_115 th p1 κ n) l2 c
theorem f_X6_start_115_s {th : Nat} {p1 : Nat} {κ : W0 → Option (Int × W0)} {n : Nat} {l2 : Int} {c : W0} : f_X6_start_115 th p1 κ (n + 1) l2 c = b_X6_start_115 th p1 κ (f_X6_start_115 th p1 κ n) l2 c := rfl
noncomputable def f_X6_start (th : Nat) (p1 : Nat) (c : W0) : Option (Int × W0) :=
  sto c th 0 (c p1 1) fun c1 =>
  sto c1 th 1 ((c1 p1 0) + (c1 p1 1)) fun c2 =>
  sto c2 th 2 1 fun c3 =>
  f_X6_start_33 th p1 (fun c4 =>
      f_X6_start_115 th p1 (fun c5 =>
          gd ((0 ≤ (c5 th 0) ∧ (c5 th 0) < 5) ∧ (0 ≤ (c5 th 1) ∧ (c5 th 1) < 9)) <|
          sto c5 (th + 4) ((c5 th 0) * 9 + (c5 th 1)) 0 fun c6 =>
          some (0, c6)) LF 0 c4) LF 0 c3
noncomputable def f_X4_start (th : Nat) (c : W0) : Option (Int × W0) :=
  cl (f_X6_start (th + 4) (th + 1) c) fun _ c1 =>
  sto c1 th 3 0 fun c3 =>
  some (0, c3)
noncomputable def f_X6_reduced (th : Nat) (p1 : Int) (c : W0) : Option Int :=
  gd ((0 ≤ (c th 0) ∧ (c th 0) < 5) ∧ (0 ≤ p1 ∧ p1 < 9)) <|
  some (c (th + 4) ((c th 0) * 9 + p1))
noncomputable def b_X6_leastRow_10 (th : Nat) (p1 : Int) (c : W0) (κ : Int → Option Int) (rec : Int → Int → Int → Int → Option Int) (l2 : Int) (l3 : Int) (l5 : Int) (l7 : Int) : Option Int :=
  gd (R32 l7 ∧ R32 (c th 0)) <|
  bq ((c th 0) ≤ l7) (
    κ l2) (
    gd ((0 ≤ l7 ∧ l7 < 5) ∧ (0 ≤ p1 ∧ p1 < 9)) <|
    gd ((0 ≤ l7 ∧ l7 < 5) ∧ (0 ≤ (c th 1) ∧ (c th 1) < 9)) <|
    gd (R64 (c (th + 4) (l7 * 9 + p1))) <|
    bq ((c (th + 4) (l7 * 9 + p1)) ≤ 0) (
      rec l2 l3 l5 (l7 + 1)) (
      gd (R32 l2) <|
      jn (fun (u2 : Unit) =>
          rec l7 (c (th + 4) (l7 * 9 + p1)) (c (th + 4) (l7 * 9 + (c th 1))) (l7 + 1)) fun k1 =>
      bq (l2 < 0) (
        k1 ()) (
        gd (R64 (((c (th + 4) (l7 * 9 + (c th 1))) * l3) - (l5 * (c (th + 4) (l7 * 9 + p1))))) <|
        bq ((((c (th + 4) (l7 * 9 + (c th 1))) * l3) - (l5 * (c (th + 4) (l7 * 9 + p1)))) < 0) (
          k1 ()) (
          gd (R64 (((c (th + 4) (l7 * 9 + (c th 1))) * l3) - (l5 * (c (th + 4) (l7 * 9 + p1))))) <|
          bq ((((c (th + 4) (l7 * 9 + (c th 1))) * l3) - (l5 * (c (th + 4) (l7 * 9 + p1)))) = 0) (
            gd ((0 ≤ l7 ∧ l7 < 4)) <|
            gd ((0 ≤ l2 ∧ l2 < 4)) <|
            gd (R64 (c (th + 2) l7) ∧ R64 (c (th + 2) l2)) <|
            bq ((c (th + 2) l2) ≤ (c (th + 2) l7)) (
              rec l2 l3 l5 (l7 + 1)) (
              k1 ())) (
            rec l2 l3 l5 (l7 + 1))))))
noncomputable def f_X6_leastRow_10 (th : Nat) (p1 : Int) (c : W0) (κ : Int → Option Int) : Nat → Int → Int → Int → Int → Option Int
  | 0, _, _, _, _ => none
  | n + 1, l2, l3, l5, l7 => b_X6_leastRow_10 th p1 c κ (f_X6_leastRow_10 th p1 c κ n) l2 l3 l5 l7
theorem f_X6_leastRow_10_s {th : Nat} {p1 : Int} {c : W0} {κ : Int → Option Int} {n : Nat} {l2 : Int} {l3 : Int} {l5 : Int} {l7 : Int} : f_X6_leastRow_10 th p1 c κ (n + 1) l2 l3 l5 l7 = b_X6_leastRow_10 th p1 c κ (f_X6_leastRow_10 th p1 c κ n) l2 l3 l5 l7 := rfl
noncomputable def f_X6_leastRow (th : Nat) (p1 : Int) (c : W0) : Option Int :=
  f_X6_leastRow_10 th p1 c (fun v1 =>
      some v1) LF (-1) 0 0 0
noncomputable def f_X6_side (th : Nat) (p1 : Int) (c : W0) : Option Int :=
  gd ((0 ≤ p1 ∧ p1 < 5) ∧ (0 ≤ (c th 1) ∧ (c th 1) < 9)) <|
  some (c (th + 4) (p1 * 9 + (c th 1)))
noncomputable def f_X6_entry (th : Nat) (p1 : Int) (p2 : Int) (c : W0) : Option Int :=
  gd ((0 ≤ p1 ∧ p1 < 5) ∧ (0 ≤ p2 ∧ p2 < 9)) <|
  some (c (th + 4) (p1 * 9 + p2))
noncomputable def f_X6_gainsMore (th : Nat) (p1 : Int) (p2 : Int) (c : W0) : Option Int :=
  cv (f_X6_leastRow th p1 c) fun v1 =>
  cv (f_X6_leastRow th p2 c) fun v2 =>
  cv (f_X6_reduced th p1 c) fun v3 =>
  cv (f_X6_side th v1 c) fun v4 =>
  cv (f_X6_entry th v2 p2 c) fun v5 =>
  cv (f_X6_reduced th p2 c) fun v6 =>
  cv (f_X6_side th v2 c) fun v7 =>
  cv (f_X6_entry th v1 p1 c) fun v8 =>
  gd (R64 ((v3 * v4) * v5) ∧ R64 ((v6 * v7) * v8)) <|
  bq (((v3 * v4) * v5) ≤ ((v6 * v7) * v8)) (
    some 0) (
    some 1)
noncomputable def b_X6_chosenColumn_4 (th : Nat) (p1 : Int) (c : W0) (κ : Int → Option Int) (rec : Int → Int → Option Int) (l2 : Int) (l3 : Int) : Option Int :=
  gd (R32 l3 ∧ R32 (c th 1)) <|
  bq ((c th 1) ≤ l3) (
    κ l2) (
    cv (f_X6_reduced th l3 c) fun v1 =>
    gd (R64 v1) <|
    bq (v1 ≤ 0) (
      rec l2 (l3 + 1)) (
      gd (R32 l2) <|
      bq (l2 < 0) (
        rec l3 (l3 + 1)) (
        gd (R32 p1) <|
        jn (fun (u3 : Unit) =>
            gd (R32 p1) <|
            bq (p1 = 2) (
              cv (f_X6_gainsMore th l3 l2 c) fun v4 =>
              gd (R32 v4) <|
              bq (v4 = 0) (
                rec l2 (l3 + 1)) (
                rec l3 (l3 + 1))) (
              rec l2 (l3 + 1))) fun k2 =>
        bq (p1 = 1) (
          cv (f_X6_reduced th l3 c) fun v5 =>
          cv (f_X6_reduced th l2 c) fun v6 =>
          gd (R64 v5 ∧ R64 v6) <|
          bq (v6 < v5) (
            rec l3 (l3 + 1)) (
            k2 ())) (
          k2 ()))))
noncomputable def f_X6_chosenColumn_4 (th : Nat) (p1 : Int) (c : W0) (κ : Int → Option Int) : Nat → Int → Int → Option Int
  | 0, _, _ => none
  | n + 1, l2, l3 => b_X6_chosenColumn_4 th p1 c κ (f_X6_chosenColumn_4 th p1 c κ n) l2 l3
theorem f_X6_chosenColumn_4_s {th : Nat} {p1 : Int} {c : W0} {κ : Int → Option Int} {n : Nat} {l2 : Int} {l3 : Int} : f_X6_chosenColumn_4 th p1 c κ (n + 1) l2 l3 = b_X6_chosenColumn_4 th p1 c κ (f_X6_chosenColumn_4 th p1 c κ n) l2 l3 := rfl
noncomputable def f_X6_chosenColumn (th : Nat) (p1 : Int) (c : W0) : Option Int :=
  f_X6_chosenColumn_4 th p1 c (fun v1 =>
      some v1) LF (-1) 0
noncomputable def f_X4_chosenColumn (th : Nat) (c : W0) : Option Int :=
  cv (f_X6_chosenColumn (th + 4) (c th 2) c) fun v1 =>
  some v1
noncomputable def b_X6_turn_17 (th : Nat) (p1 : Int) (p2 : Int) (l3 : Int) (κ : W0 → Option (Int × W0)) (rec : Int → W0 → Option (Int × W0)) (l5 : Int) (c : W0) : Option (Int × W0) :=
  gd (R32 l5 ∧ R32 (c th 0)) <|
  bq ((c th 0) < l5) (
    κ c) (
    gd (R32 l5 ∧ R32 p1) <|
    bq (l5 = p1) (
      rec (l5 + 1) c) (
      gd (clG (c (th + 4)) 9 5 l5 p1 p2 (c th 1) (c th 2)) <|
      stw c (th + 4) (clr (c (th + 4)) 9 l5 p1 p2 (c th 2) ((c th 1) + 1)) fun c1 =>
      rec (l5 + 1) c1))
noncomputable def f_X6_turn_17 (th : Nat) (p1 : Int) (p2 : Int) (l3 : Int) (κ : W0 → Option (Int × W0)) : Nat → Int → W0 → Option (Int × W0)
  | 0, _, _ => none
  | n + 1, l5, c => b_X6_turn_17 th p1 p2 l3 κ (f_X6_turn_17 th p1 p2 l3 κ n) l5 c
theorem f_X6_turn_17_s {th : Nat} {p1 : Int} {p2 : Int} {l3 : Int} {κ : W0 → Option (Int × W0)} {n : Nat} {l5 : Int} {c : W0} : f_X6_turn_17 th p1 p2 l3 κ (n + 1) l5 c = b_X6_turn_17 th p1 p2 l3 κ (f_X6_turn_17 th p1 p2 l3 κ n) l5 c := rfl
noncomputable def f_X6_turn (th : Nat) (p1 : Int) (p2 : Int) (c : W0) : Option (Int × W0) :=
  cv (f_X6_entry th p1 p2 c) fun v1 =>
  gd (R64 v1) <|
  bq (0 < v1) (
    f_X6_turn_17 th p1 p2 v1 (fun c2 =>
        gd (R32 p2) <|
        gd ((0 ≤ p1 ∧ p1 < 4)) <|
        sto c2 (th + 2) p1 p2 fun c3 =>
        sto c3 th 2 v1 fun c4 =>
        some (0, c4)) LF 0 c) (
    some (0, c))
noncomputable def f_X4_turn (th : Nat) (p1 : Int) (p2 : Int) (c : W0) : Option (Int × W0) :=
  cv (f_X6_side (th + 4) p1 c) fun v1 =>
  gd (R64 v1) <|
  jn (fun (c3 : W0) =>
      cl (f_X6_turn (th + 4) p1 p2 c3) fun _ c4 =>
      sto c4 th 3 ((c4 th 3) + 1) fun c6 =>
      sto c6 th 4 ((c6 th 4) + 1) fun c7 =>
      some (0, c7)) fun k2 =>
  bq (v1 = 0) (
    sto c th 5 ((c th 5) + 1) fun c8 =>
    k2 c8) (
    k2 c)
noncomputable def b_X6_isBest_2 (th : Nat) (c : W0) (κ : Option Int) (rec : Int → Option Int) (l1 : Int) : Option Int :=
  gd (R32 l1 ∧ R32 (c th 1)) <|
  bq ((c th 1) ≤ l1) (
    κ) (
    cv (f_X6_reduced th l1 c) fun v1 =>
    gd (R64 v1) <|
    bq (v1 ≤ 0) (
      rec (l1 + 1)) (
      some 0))
noncomputable def f_X6_isBest_2 (th : Nat) (c : W0) (κ : Option Int) : Nat → Int → Option Int
  | 0, _ => none
  | n + 1, l1 => b_X6_isBest_2 th c κ (f_X6_isBest_2 th c κ n) l1
theorem f_X6_isBest_2_s {th : Nat} {c : W0} {κ : Option Int} {n : Nat} {l1 : Int} : f_X6_isBest_2 th c κ (n + 1) l1 = b_X6_isBest_2 th c κ (f_X6_isBest_2 th c κ n) l1 := rfl
noncomputable def f_X6_isBest (th : Nat) (c : W0) : Option Int :=
  f_X6_isBest_2 th c (
      some 1) LF 0
noncomputable def b_X6_openColumn_2 (th : Nat) (c : W0) (κ : Option Int) (rec : Int → Option Int) (l1 : Int) : Option Int :=
  gd (R32 l1 ∧ R32 (c th 1)) <|
  bq ((c th 1) ≤ l1) (
    κ) (
    cv (f_X6_reduced th l1 c) fun v1 =>
    gd (R64 v1) <|
    bq (v1 ≤ 0) (
      rec (l1 + 1)) (
      cv (f_X6_leastRow th l1 c) fun v2 =>
      gd (R32 v2) <|
      bq (0 ≤ v2) (
        rec (l1 + 1)) (
        some l1)))
noncomputable def f_X6_openColumn_2 (th : Nat) (c : W0) (κ : Option Int) : Nat → Int → Option Int
  | 0, _ => none
  | n + 1, l1 => b_X6_openColumn_2 th c κ (f_X6_openColumn_2 th c κ n) l1
theorem f_X6_openColumn_2_s {th : Nat} {c : W0} {κ : Option Int} {n : Nat} {l1 : Int} : f_X6_openColumn_2 th c κ (n + 1) l1 = b_X6_openColumn_2 th c κ (f_X6_openColumn_2 th c κ n) l1 := rfl
noncomputable def f_X6_openColumn (th : Nat) (c : W0) : Option Int :=
  f_X6_openColumn_2 th c (
      some (-1)) LF 0
noncomputable def f_X6_isOpen (th : Nat) (c : W0) : Option Int :=
  cv (f_X6_isBest th c) fun v1 =>
  gd (R32 v1) <|
  bq (v1 = 0) (
    cv (f_X6_openColumn th c) fun v2 =>
    gd (R32 v2) <|
    bq (0 ≤ v2) (
      some 0) (
      some 1)) (
    some 0)
noncomputable def b_X4_run_2 (th : Nat) (κ : Int → W0 → Option (Int × W0)) (rec : Int → W0 → Option (Int × W0)) (l1 : Int) (c : W0) : Option (Int × W0) :=
  gd (R32 l1) <|
  bq (40 ≤ l1) (
    κ l1 c) (
    cv (f_X6_isOpen (th + 4) c) fun v1 =>
    gd (R32 v1) <|
    bq (v1 = 0) (
      κ l1 c) (
      cv (f_X6_chosenColumn (th + 4) (c th 2) c) fun v2 =>
      cv (f_X6_leastRow (th + 4) v2 c) fun v3 =>
      cl (f_X4_turn th v3 v2 c) fun _ c4 =>
      rec (l1 + 1) c4))
noncomputable def f_X4_run_2 (th : Nat) (κ : Int → W0 → Option (Int × W0)) : Nat → Int → W0 → Option (Int × W0)
  | 0, _, _ => none
  | n + 1, l1, c => b_X4_run_2 th κ (f_X4_run_2 th κ n) l1 c
theorem f_X4_run_2_s {th : Nat} {κ : Int → W0 → Option (Int × W0)} {n : Nat} {l1 : Int} {c : W0} : f_X4_run_2 th κ (n + 1) l1 c = b_X4_run_2 th κ (f_X4_run_2 th κ n) l1 c := rfl
noncomputable def f_X4_run (th : Nat) (c : W0) : Option (Int × W0) :=
  f_X4_run_2 th (fun v1 c2 =>
      some (v1, c2)) LF 0 c
noncomputable def f_X4_dual (th : Nat) (p1 : Int) (c : W0) : Option Int :=
  cv (f_X6_reduced (th + 4) ((c (th + 1) 0) + p1) c) fun v1 =>
  some (-v1)
noncomputable def b_X4_dualWorth_4 (th : Nat) (c : W0) (κ : Int → Option Int) (rec : Int → Int → Option Int) (l1 : Int) (l3 : Int) : Option Int :=
  gd (R32 l3 ∧ R32 (c (th + 1) 1)) <|
  bq ((c (th + 1) 1) ≤ l3) (
    κ l1) (
    cv (f_X4_dual th l3 c) fun v1 =>
    cv (f_X2_bound (th + 1) l3 c) fun v2 =>
    gd (R32 v2) <|
    rec (l1 + (v1 * v2)) (l3 + 1))
noncomputable def f_X4_dualWorth_4 (th : Nat) (c : W0) (κ : Int → Option Int) : Nat → Int → Int → Option Int
  | 0, _, _ => none
  | n + 1, l1, l3 => b_X4_dualWorth_4 th c κ (f_X4_dualWorth_4 th c κ n) l1 l3
theorem f_X4_dualWorth_4_s {th : Nat} {c : W0} {κ : Int → Option Int} {n : Nat} {l1 : Int} {l3 : Int} : f_X4_dualWorth_4 th c κ (n + 1) l1 l3 = b_X4_dualWorth_4 th c κ (f_X4_dualWorth_4 th c κ n) l1 l3 := rfl
noncomputable def f_X4_dualWorth (th : Nat) (c : W0) : Option Int :=
  f_X4_dualWorth_4 th c (fun v1 =>
      some v1) LF 0 0
noncomputable def b_X6_room_7 (th : Nat) (p1 : Int) (p2 : Int) (c : W0) (κ : Int → Option Int) (rec : Int → Int → Option Int) (l3 : Int) (l5 : Int) : Option Int :=
  gd (R32 l5 ∧ R32 (c th 0)) <|
  bq ((c th 0) ≤ l5) (
    κ l3) (
    gd (R32 p2) <|
    cv (f_X6_entry th l5 p1 c) fun v1 =>
    gd (R64 (p2 * v1)) <|
    bq ((p2 * v1) ≤ 0) (
      rec l3 (l5 + 1)) (
      cv (f_X6_side th l5 c) fun v2 =>
      gd (¬ (p2 * v1) = 0 ∧ R64 v2 ∧ R64 (p2 * v1)) <|
      gd (R64 l3 ∧ R64 (Int.tdiv v2 (p2 * v1))) <|
      rec (if (Int.tdiv v2 (p2 * v1)) < l3 then (Int.tdiv v2 (p2 * v1)) else l3) (l5 + 1)))
noncomputable def f_X6_room_7 (th : Nat) (p1 : Int) (p2 : Int) (c : W0) (κ : Int → Option Int) : Nat → Int → Int → Option Int
  | 0, _, _ => none
  | n + 1, l3, l5 => b_X6_room_7 th p1 p2 c κ (f_X6_room_7 th p1 p2 c κ n) l3 l5
theorem f_X6_room_7_s {th : Nat} {p1 : Int} {p2 : Int} {c : W0} {κ : Int → Option Int} {n : Nat} {l3 : Int} {l5 : Int} : f_X6_room_7 th p1 p2 c κ (n + 1) l3 l5 = b_X6_room_7 th p1 p2 c κ (f_X6_room_7 th p1 p2 c κ n) l3 l5 := rfl
noncomputable def f_X6_room (th : Nat) (p1 : Int) (p2 : Int) (c : W0) : Option Int :=
  f_X6_room_7 th p1 p2 c (fun v1 =>
      some v1) LF 99 0
noncomputable def f_X4_roomToFall (th : Nat) (p1 : Int) (c : W0) : Option Int :=
  cv (f_X6_room (th + 4) ((c (th + 1) 0) + p1) 1 c) fun v1 =>
  some v1
noncomputable def f_X4_roomToRise (th : Nat) (p1 : Int) (c : W0) : Option Int :=
  cv (f_X6_room (th + 4) ((c (th + 1) 0) + p1) (-1) c) fun v1 =>
  some v1
noncomputable def f_J6_bitCount_0f7a4 (p1 : Int) : Option Int :=
  some (iandZ (((iandZ (((iandZ (p1 - (iandZ (iushrZ p1 1) 1431655765)) 858993459) + (iandZ (iushrZ (p1 - (iandZ (iushrZ p1 1) 1431655765)) 2) 858993459)) + (iushrZ ((iandZ (p1 - (iandZ (iushrZ p1 1) 1431655765)) 858993459) + (iandZ (iushrZ (p1 - (iandZ (iushrZ p1 1) 1431655765)) 2) 858993459)) 4)) 252645135) + (iushrZ (iandZ (((iandZ (p1 - (iandZ (iushrZ p1 1) 1431655765)) 858993459) + (iandZ (iushrZ (p1 - (iandZ (iushrZ p1 1) 1431655765)) 2) 858993459)) + (iushrZ ((iandZ (p1 - (iandZ (iushrZ p1 1) 1431655765)) 858993459) + (iandZ (iushrZ (p1 - (iandZ (iushrZ p1 1) 1431655765)) 2) 858993459)) 4)) 252645135) 8)) + (iushrZ ((iandZ (((iandZ (p1 - (iandZ (iushrZ p1 1) 1431655765)) 858993459) + (iandZ (iushrZ (p1 - (iandZ (iushrZ p1 1) 1431655765)) 2) 858993459)) + (iushrZ ((iandZ (p1 - (iandZ (iushrZ p1 1) 1431655765)) 858993459) + (iandZ (iushrZ (p1 - (iandZ (iushrZ p1 1) 1431655765)) 2) 858993459)) 4)) 252645135) + (iushrZ (iandZ (((iandZ (p1 - (iandZ (iushrZ p1 1) 1431655765)) 858993459) + (iandZ (iushrZ (p1 - (iandZ (iushrZ p1 1) 1431655765)) 2) 858993459)) + (iushrZ ((iandZ (p1 - (iandZ (iushrZ p1 1) 1431655765)) 858993459) + (iandZ (iushrZ (p1 - (iandZ (iushrZ p1 1) 1431655765)) 2) 858993459)) 4)) 252645135) 8)) 16)) 63)
noncomputable def b_X5_isFeasible_2 (th : Nat) (c : W0) (κ : Option Int) (rec : Int → Option Int) (l1 : Int) : Option Int :=
  gd (R32 l1 ∧ R32 (c (th + 1) 0)) <|
  bq ((c (th + 1) 0) ≤ l1) (
    κ) (
    cv (f_X0_unknown (th + 1) l1 c) fun v1 =>
    gd (R64 (c (th + 1) 1)) <|
    bq (0 ≤ (c (th + 1) 1)) (
      gd (R64 v1) <|
      bq (0 ≤ v1) (
        rec (l1 + 1)) (
        some 0)) (
      gd (R64 v1) <|
      bq (v1 ≤ 0) (
        rec (l1 + 1)) (
        some 0)))
noncomputable def f_X5_isFeasible_2 (th : Nat) (c : W0) (κ : Option Int) : Nat → Int → Option Int
  | 0, _ => none
  | n + 1, l1 => b_X5_isFeasible_2 th c κ (f_X5_isFeasible_2 th c κ n) l1
theorem f_X5_isFeasible_2_s {th : Nat} {c : W0} {κ : Option Int} {n : Nat} {l1 : Int} : f_X5_isFeasible_2 th c κ (n + 1) l1 = b_X5_isFeasible_2 th c κ (f_X5_isFeasible_2 th c κ n) l1 := rfl
noncomputable def f_X5_isFeasible (th : Nat) (c : W0) : Option Int :=
  f_X5_isFeasible_2 th c (
      some 1) LF 0
noncomputable def b_X5_sumOfProfits_14 (th : Nat) (p1 : Nat) (p2 : Int) (c : W0) (κ : Int → Option Int) (rec : Int → Int → Int → Option Int) (l3 : Int) (l5 : Int) (l6 : Int) : Option Int :=
  gd (R32 l6 ∧ R32 ((c p1 0) + (c p1 1))) <|
  bq (((c p1 0) + (c p1 1)) ≤ l6) (
    κ l3) (
    gd (R32 (iandZ (ishrZ p2 l6) 1)) <|
    bq ((iandZ (ishrZ p2 l6) 1) = 1) (
      cv (f_X2_columnProfit p1 l6 c) fun v1 =>
      gd (R32 v1) <|
      cv (f_X0_unknown (th + 1) l5 c) fun v2 =>
      rec (l3 + (v1 * v2)) (l5 + 1) (l6 + 1)) (
      rec l3 l5 (l6 + 1)))
noncomputable def f_X5_sumOfProfits_14 (th : Nat) (p1 : Nat) (p2 : Int) (c : W0) (κ : Int → Option Int) : Nat → Int → Int → Int → Option Int
  | 0, _, _, _ => none
  | n + 1, l3, l5, l6 => b_X5_sumOfProfits_14 th p1 p2 c κ (f_X5_sumOfProfits_14 th p1 p2 c κ n) l3 l5 l6
theorem f_X5_sumOfProfits_14_s {th : Nat} {p1 : Nat} {p2 : Int} {c : W0} {κ : Int → Option Int} {n : Nat} {l3 : Int} {l5 : Int} {l6 : Int} : f_X5_sumOfProfits_14 th p1 p2 c κ (n + 1) l3 l5 l6 = b_X5_sumOfProfits_14 th p1 p2 c κ (f_X5_sumOfProfits_14 th p1 p2 c κ n) l3 l5 l6 := rfl
noncomputable def f_X5_sumOfProfits (th : Nat) (p1 : Nat) (p2 : Int) (c : W0) : Option Int :=
  f_X5_sumOfProfits_14 th p1 p2 c (fun v1 =>
      some v1) LF 0 0 0
noncomputable def b_X8_commonDivisor_15  (κ : Int → Option Int) (rec : Int → Int → Int → Option Int) (l4 : Int) (l6 : Int) (l8 : Int) : Option Int :=
  gd (R32 l8) <|
  bq (100 ≤ l8) (
    κ l4) (
    gd (R64 l6) <|
    bq (l6 = 0) (
      κ l4) (
      gd (¬ l6 = 0 ∧ R64 l4 ∧ R64 l6) <|
      rec l6 (Int.tmod l4 l6) (l8 + 1)))
noncomputable def f_X8_commonDivisor_15  (κ : Int → Option Int) : Nat → Int → Int → Int → Option Int
  | 0, _, _, _ => none
  | n + 1, l4, l6, l8 => b_X8_commonDivisor_15  κ (f_X8_commonDivisor_15  κ n) l4 l6 l8
theorem f_X8_commonDivisor_15_s  {κ : Int → Option Int} {n : Nat} {l4 : Int} {l6 : Int} {l8 : Int} : f_X8_commonDivisor_15  κ (n + 1) l4 l6 l8 = b_X8_commonDivisor_15  κ (f_X8_commonDivisor_15  κ n) l4 l6 l8 := rfl
noncomputable def f_X8_commonDivisor (p1 : Int) (p2 : Int) : Option Int :=
  gd (R64 p1) <|
  gd (R64 p2) <|
  f_X8_commonDivisor_15  (fun v1 =>
      some v1) LF (if 0 < p1 then p1 else -p1) (if 0 < p2 then p2 else -p2) 0
noncomputable def f_X8_lowNumerator (p1 : Int) (p2 : Int) : Option Int :=
  cv (f_X8_commonDivisor p1 p2) fun v1 =>
  gd (R64 v1) <|
  bq (v1 = 0) (
    some 0) (
    gd (R64 p2) <|
    bq (0 ≤ p2) (
      gd (¬ v1 = 0 ∧ R64 p1 ∧ R64 v1) <|
      some (Int.tdiv p1 v1)) (
      gd (¬ v1 = 0 ∧ R64 p1 ∧ R64 v1) <|
      some (-(Int.tdiv p1 v1))))
noncomputable def f_X8_lowDenominator (p1 : Int) (p2 : Int) : Option Int :=
  cv (f_X8_commonDivisor p1 p2) fun v1 =>
  gd (R64 v1) <|
  bq (v1 = 0) (
    some 1) (
    gd (R64 p2) <|
    gd (¬ v1 = 0 ∧ R64 (if 0 < p2 then p2 else -p2) ∧ R64 v1) <|
    some (Int.tdiv (if 0 < p2 then p2 else -p2) v1))
noncomputable def b_X5_isNoted_3 (th : Nat) (p1 : Int) (p2 : Int) (c : W0) (κ : Option Int) (rec : Int → Option Int) (l5 : Int) : Option Int :=
  gd (R32 l5 ∧ R32 (c th 3)) <|
  bq ((c th 3) ≤ l5) (
    κ) (
    gd ((0 ≤ l5 ∧ l5 < 70)) <|
    gd (R64 (c (th + 5) l5) ∧ R64 p1) <|
    bq ((c (th + 5) l5) = p1) (
      gd ((0 ≤ l5 ∧ l5 < 70)) <|
      gd (R64 (c (th + 5) (1 * 70 + l5)) ∧ R64 p2) <|
      bq ((c (th + 5) (1 * 70 + l5)) = p2) (
        some 1) (
        rec (l5 + 1))) (
      rec (l5 + 1)))
noncomputable def f_X5_isNoted_3 (th : Nat) (p1 : Int) (p2 : Int) (c : W0) (κ : Option Int) : Nat → Int → Option Int
  | 0, _ => none
  | n + 1, l5 => b_X5_isNoted_3 th p1 p2 c κ (f_X5_isNoted_3 th p1 p2 c κ n) l5
theorem f_X5_isNoted_3_s {th : Nat} {p1 : Int} {p2 : Int} {c : W0} {κ : Option Int} {n : Nat} {l5 : Int} : f_X5_isNoted_3 th p1 p2 c κ (n + 1) l5 = b_X5_isNoted_3 th p1 p2 c κ (f_X5_isNoted_3 th p1 p2 c κ n) l5 := rfl
noncomputable def f_X5_isNoted (th : Nat) (p1 : Int) (p2 : Int) (c : W0) : Option Int :=
  f_X5_isNoted_3 th p1 p2 c (
      some 0) LF 0
noncomputable def f_X5_noteValue (th : Nat) (p1 : Int) (p2 : Int) (c : W0) : Option (Int × W0) :=
  cv (f_X8_lowNumerator p1 p2) fun v1 =>
  cv (f_X8_lowDenominator p1 p2) fun v2 =>
  cv (f_X5_isNoted th v1 v2 c) fun v3 =>
  gd (R32 v3) <|
  bq (v3 = 0) (
    gd (R32 (c th 3)) <|
    jn (fun (u5 : Unit) =>
        sto c th 4 v1 fun c6 =>
        sto c6 th 5 v2 fun c7 =>
        gd ((0 ≤ (c7 th 3) ∧ (c7 th 3) < 70)) <|
        sto c7 (th + 5) (c7 th 3) v1 fun c8 =>
        gd ((0 ≤ (c8 th 3) ∧ (c8 th 3) < 70)) <|
        sto c8 (th + 5) (1 * 70 + (c8 th 3)) v2 fun c9 =>
        sto c9 th 3 ((c9 th 3) + 1) fun c10 =>
        some (0, c10)) fun k4 =>
    bq ((c th 3) = 0) (
      k4 ()) (
      gd (R64 (v1 * (c th 5)) ∧ R64 ((c th 4) * v2)) <|
      bq ((v1 * (c th 5)) ≤ ((c th 4) * v2)) (
        gd ((0 ≤ (c th 3) ∧ (c th 3) < 70)) <|
        sto c (th + 5) (c th 3) v1 fun c11 =>
        gd ((0 ≤ (c11 th 3) ∧ (c11 th 3) < 70)) <|
        sto c11 (th + 5) (1 * 70 + (c11 th 3)) v2 fun c12 =>
        sto c12 th 3 ((c12 th 3) + 1) fun c13 =>
        some (0, c13)) (
        k4 ()))) (
    some (0, c))
noncomputable def b_X5_look_34 (th : Nat) (p1 : Nat) (l2 : Int) (κ : W0 → Option (Int × W0)) (rec : Int → W0 → Option (Int × W0)) (l3 : Int) (c : W0) : Option (Int × W0) :=
  gd (R32 l3 ∧ R32 l2) <|
  bq (l2 ≤ l3) (
    κ c) (
    cv (f_J6_bitCount_0f7a4 l3) fun v1 =>
    gd (R32 v1 ∧ R32 (c p1 1)) <|
    bq (v1 = (c p1 1)) (
      cl (f_X0_solveBasis (th + 1) p1 l3 c) fun v2 c3 =>
      gd (R32 v2) <|
      bq (v2 = 0) (
        rec (l3 + 1) c3) (
        cv (f_X5_isFeasible th c3) fun v4 =>
        gd (R32 v4) <|
        bq (v4 = 0) (
          rec (l3 + 1) c3) (
          sto c3 th 2 ((c3 th 2) + 1) fun c5 =>
          cv (f_X5_sumOfProfits th p1 l3 c5) fun v6 =>
          cl (f_X5_noteValue th v6 (c5 (th + 1) 1) c5) fun _ c7 =>
          rec (l3 + 1) c7))) (
      rec (l3 + 1) c))
noncomputable def f_X5_look_34 (th : Nat) (p1 : Nat) (l2 : Int) (κ : W0 → Option (Int × W0)) : Nat → Int → W0 → Option (Int × W0)
  | 0, _, _ => none
  | n + 1, l3, c => b_X5_look_34 th p1 l2 κ (f_X5_look_34 th p1 l2 κ n) l3 c
theorem f_X5_look_34_s {th : Nat} {p1 : Nat} {l2 : Int} {κ : W0 → Option (Int × W0)} {n : Nat} {l3 : Int} {c : W0} : f_X5_look_34 th p1 l2 κ (n + 1) l3 c = b_X5_look_34 th p1 l2 κ (f_X5_look_34 th p1 l2 κ n) l3 c := rfl
noncomputable def f_X5_look (th : Nat) (p1 : Nat) (c : W0) : Option (Int × W0) :=
  sto c th 2 0 fun c1 =>
  sto c1 th 3 0 fun c2 =>
  gd (R32 ((c2 p1 0) + (c2 p1 1))) <|
  f_X5_look_34 th p1 (ishlZ 1 (if ((c2 p1 0) + (c2 p1 1)) < 8 then ((c2 p1 0) + (c2 p1 1)) else 8)) (fun c3 =>
      some (0, c3)) LF 0 c2
noncomputable def f_X6_worth (th : Nat) (c : W0) : Option Int :=
  gd ((0 ≤ (c th 0) ∧ (c th 0) < 5) ∧ (0 ≤ (c th 1) ∧ (c th 1) < 9)) <|
  some (-(c (th + 4) ((c th 0) * 9 + (c th 1))))
noncomputable def b_X6_rowNaming_2 (th : Nat) (p1 : Int) (c : W0) (κ : Option Int) (rec : Int → Option Int) (l2 : Int) : Option Int :=
  gd (R32 l2 ∧ R32 (c th 0)) <|
  bq ((c th 0) ≤ l2) (
    κ) (
    cv (f_X6_namedBy th l2 c) fun v1 =>
    gd (R32 v1 ∧ R32 p1) <|
    bq (v1 = p1) (
      some l2) (
      rec (l2 + 1)))
noncomputable def f_X6_rowNaming_2 (th : Nat) (p1 : Int) (c : W0) (κ : Option Int) : Nat → Int → Option Int
  | 0, _ => none
  | n + 1, l2 => b_X6_rowNaming_2 th p1 c κ (f_X6_rowNaming_2 th p1 c κ n) l2
theorem f_X6_rowNaming_2_s {th : Nat} {p1 : Int} {c : W0} {κ : Option Int} {n : Nat} {l2 : Int} : f_X6_rowNaming_2 th p1 c κ (n + 1) l2 = b_X6_rowNaming_2 th p1 c κ (f_X6_rowNaming_2 th p1 c κ n) l2 := rfl
noncomputable def f_X6_rowNaming (th : Nat) (p1 : Int) (c : W0) : Option Int :=
  f_X6_rowNaming_2 th p1 c (
      some (-1)) LF 0
noncomputable def f_X6_given (th : Nat) (p1 : Int) (c : W0) : Option Int :=
  cv (f_X6_rowNaming th p1 c) fun v1 =>
  gd (R32 v1) <|
  bq (0 ≤ v1) (
    cv (f_X6_side th v1 c) fun v2 =>
    some v2) (
    some 0)
noncomputable def f_X6_obstacle (th : Nat) (p1 : Int) (p2 : Int) (c : W0) : Option Int :=
  cv (f_X6_rowNaming th p2 c) fun v1 =>
  gd (R32 v1) <|
  bq (v1 < 0) (
    cv (f_X6_reduced th p2 c) fun v2 =>
    gd (R64 v2) <|
    bq (0 < v2) (
      cv (f_X6_entry th p1 p2 c) fun v3 =>
      gd (R64 v3) <|
      bq (0 < v3) (
        cv (f_X6_leastRow th p2 c) fun v4 =>
        cv (f_X6_side th v4 c) fun v5 =>
        cv (f_X6_entry th p1 p2 c) fun v6 =>
        cv (f_X6_side th p1 c) fun v7 =>
        cv (f_X6_entry th v4 p2 c) fun v8 =>
        gd (R64 (v5 * v6) ∧ R64 (v7 * v8)) <|
        bq ((v7 * v8) ≤ (v5 * v6)) (
          some 0) (
          some 4)) (
        some 3)) (
      some 2)) (
    some 1)
noncomputable def f_X6_growth (th : Nat) (p1 : Int) (c : W0) : Option Int :=
  cv (f_X6_openColumn th c) fun v1 =>
  gd (R32 p1 ∧ R32 v1) <|
  bq (p1 = v1) (
    some (c th 2)) (
    cv (f_X6_rowNaming th p1 c) fun v2 =>
    gd (R32 v2) <|
    bq (0 ≤ v2) (
      cv (f_X6_entry th v2 v1 c) fun v3 =>
      some (-v3)) (
      some 0))
noncomputable def f_X7_add (th : Nat) (p1 : Int) (c : W0) : Option (Int × W0) :=
  gd (R32 p1) <|
  gd ((0 ≤ (c th 0) ∧ (c th 0) < 80)) <|
  sto c (th + 2) (c th 0) p1 fun c1 =>
  sto c1 th 0 ((c1 th 0) + 1) fun c2 =>
  some (0, c2)
noncomputable def f_X7_clear (th : Nat) (c : W0) : Option (Int × W0) :=
  sto c th 0 0 fun c1 =>
  some (0, c1)
noncomputable def f_X7_addFactor (th : Nat) (p1 : Int) (p2 : Int) (c : W0) : Option (Int × W0) :=
  gd (R32 p1) <|
  jn (fun (c2 : W0) =>
      gd (R32 p2) <|
      jn (fun (c4 : W0) =>
          gd (R32 p2) <|
          cl (f_X7_add th (48 + (if 0 ≤ p2 then p2 else -p2)) c4) fun _ c5 =>
          some (0, c5)) fun k3 =>
      bq (0 ≤ p2) (
        k3 c2) (
        cl (f_X7_add th 45 c2) fun _ c7 =>
        k3 c7)) fun k1 =>
  bq (p1 ≤ 0) (
    k1 c) (
    cl (f_X7_add th 44 c) fun _ c9 =>
    k1 c9)
noncomputable def f_X7_addBound (th : Nat) (p1 : Int) (c : W0) : Option (Int × W0) :=
  gd (R32 p1) <|
  jn (fun (c2 : W0) =>
      gd (R32 p1) <|
      cl (f_X7_add th (48 + (Int.tmod p1 10)) c2) fun _ c3 =>
      some (0, c3)) fun k1 =>
  bq (p1 ≤ 9) (
    k1 c) (
    gd (R32 p1) <|
    cl (f_X7_add th (48 + (Int.tdiv p1 10)) c) fun _ c5 =>
    k1 c5)
noncomputable def b_X7_addProblem_36 (th : Nat) (p1 : Nat) (κ : W0 → Option (Int × W0)) (rec : Int → W0 → Option (Int × W0)) (l2 : Int) (c : W0) : Option (Int × W0) :=
  gd (R32 l2 ∧ R32 (c p1 0)) <|
  bq ((c p1 0) ≤ l2) (
    κ c) (
    cv (f_X2_profit p1 l2 c) fun v1 =>
    cl (f_X7_addFactor th l2 v1 c) fun _ c2 =>
    rec (l2 + 1) c2)
noncomputable def f_X7_addProblem_36 (th : Nat) (p1 : Nat) (κ : W0 → Option (Int × W0)) : Nat → Int → W0 → Option (Int × W0)
  | 0, _, _ => none
  | n + 1, l2, c => b_X7_addProblem_36 th p1 κ (f_X7_addProblem_36 th p1 κ n) l2 c
theorem f_X7_addProblem_36_s {th : Nat} {p1 : Nat} {κ : W0 → Option (Int × W0)} {n : Nat} {l2 : Int} {c : W0} : f_X7_addProblem_36 th p1 κ (n + 1) l2 c = b_X7_addProblem_36 th p1 κ (f_X7_addProblem_36 th p1 κ n) l2 c := rfl
noncomputable def b_X7_addProblem_84 (th : Nat) (p1 : Nat) (l2 : Int) (κ : W0 → Option (Int × W0)) (rec : Int → W0 → Option (Int × W0)) (l3 : Int) (c : W0) : Option (Int × W0) :=
  gd (R32 l3 ∧ R32 (c p1 0)) <|
  bq ((c p1 0) ≤ l3) (
    κ c) (
    cv (f_X2_coefficient p1 l2 l3 c) fun v1 =>
    cl (f_X7_addFactor th l3 v1 c) fun _ c2 =>
    rec (l3 + 1) c2)
noncomputable def f_X7_addProblem_84 (th : Nat) (p1 : Nat) (l2 : Int) (κ : W0 → Option (Int × W0)) : Nat → Int → W0 → Option (Int × W0)
  | 0, _, _ => none
  | n + 1, l3, c => b_X7_addProblem_84 th p1 l2 κ (f_X7_addProblem_84 th p1 l2 κ n) l3 c
theorem f_X7_addProblem_84_s {th : Nat} {p1 : Nat} {l2 : Int} {κ : W0 → Option (Int × W0)} {n : Nat} {l3 : Int} {c : W0} : f_X7_addProblem_84 th p1 l2 κ (n + 1) l3 c = b_X7_addProblem_84 th p1 l2 κ (f_X7_addProblem_84 th p1 l2 κ n) l3 c := rfl
noncomputable def b_X7_addProblem_62 (th : Nat) (p1 : Nat) (κ : W0 → Option (Int × W0)) (rec : Int → W0 → Option (Int × W0)) (l2 : Int) (c : W0) : Option (Int × W0) :=
  gd (R32 l2 ∧ R32 (c p1 1)) <|
  bq ((c p1 1) ≤ l2) (
    κ c) (
    cl (f_X7_add th 59 c) fun _ c1 =>
    cl (f_X7_add th 99 c1) fun _ c3 =>
    f_X7_addProblem_84 th p1 l2 (fun c5 =>
        cl (f_X7_add th 60 c5) fun _ c6 =>
        cv (f_X2_bound p1 l2 c6) fun v8 =>
        cl (f_X7_addBound th v8 c6) fun _ c9 =>
        rec (l2 + 1) c9) LF 0 c3)
noncomputable def f_X7_addProblem_62 (th : Nat) (p1 : Nat) (κ : W0 → Option (Int × W0)) : Nat → Int → W0 → Option (Int × W0)
  | 0, _, _ => none
  | n + 1, l2, c => b_X7_addProblem_62 th p1 κ (f_X7_addProblem_62 th p1 κ n) l2 c
theorem f_X7_addProblem_62_s {th : Nat} {p1 : Nat} {κ : W0 → Option (Int × W0)} {n : Nat} {l2 : Int} {c : W0} : f_X7_addProblem_62 th p1 κ (n + 1) l2 c = b_X7_addProblem_62 th p1 κ (f_X7_addProblem_62 th p1 κ n) l2 c := rfl
noncomputable def f_X7_addProblem (th : Nat) (p1 : Nat) (c : W0) : Option (Int × W0) :=
  cl (f_X7_add th 118 c) fun _ c1 =>
  cl (f_X7_add th (48 + (c1 p1 0)) c1) fun _ c3 =>
  cl (f_X7_add th 59 c3) fun _ c5 =>
  cl (f_X7_add th 109 c5) fun _ c7 =>
  f_X7_addProblem_36 th p1 (fun c9 =>
      f_X7_addProblem_62 th p1 (fun c10 =>
          some (0, c10)) LF 0 c9) LF 0 c7
noncomputable def b_X8_dropOldest_2 (th : Nat) (κ : W0 → Option (Int × W0)) (rec : Int → W0 → Option (Int × W0)) (l1 : Int) (c : W0) : Option (Int × W0) :=
  gd (R32 (l1 + 1)) <|
  bq (6 ≤ (l1 + 1)) (
    κ c) (
    gd (0 ≤ (l1 + 1) ∧ (l1 + 1) < 6) <|
    gd (stP th ((c (th + 28) (l1 + 1)).toNat)) <|
    gd (0 ≤ l1 ∧ l1 < 6) <|
    gd (stP th ((c (th + 28) l1).toNat)) <|
    gd (0 ≤ (l1 + 1) ∧ (l1 + 1) < 6) <|
    sto c (th + 28) (l1 + 1) ((((c (th + 28) l1).toNat) : Nat) : Int) fun c3 =>
    gd (0 ≤ l1 ∧ l1 < 6) <|
    sto c3 (th + 28) l1 ((((c (th + 28) (l1 + 1)).toNat) : Nat) : Int) fun c4 =>
    rec (l1 + 1) c4)
noncomputable def f_X8_dropOldest_2 (th : Nat) (κ : W0 → Option (Int × W0)) : Nat → Int → W0 → Option (Int × W0)
  | 0, _, _ => none
  | n + 1, l1, c => b_X8_dropOldest_2 th κ (f_X8_dropOldest_2 th κ n) l1 c
theorem f_X8_dropOldest_2_s {th : Nat} {κ : W0 → Option (Int × W0)} {n : Nat} {l1 : Int} {c : W0} : f_X8_dropOldest_2 th κ (n + 1) l1 c = b_X8_dropOldest_2 th κ (f_X8_dropOldest_2 th κ n) l1 c := rfl
noncomputable def f_X8_dropOldest (th : Nat) (c : W0) : Option (Int × W0) :=
  f_X8_dropOldest_2 th (fun c1 =>
      sto c1 th 10 ((c1 th 10) - 1) fun c2 =>
      some (0, c2)) LF 0 c
noncomputable def f_X8_saveState (th : Nat) (c : W0) : Option (Int × W0) :=
  gd (R32 (c th 10)) <|
  jn (fun (c2 : W0) =>
      gd (R32 (c2 th 10)) <|
      bq ((c2 th 10) < 0) (
        some (0, c2)) (
        gd (R32 (c2 th 10)) <|
        bq (6 ≤ (c2 th 10)) (
          some (0, c2)) (
          gd (0 ≤ (c2 th 10) ∧ (c2 th 10) < 6) <|
          gd (stP th ((c2 (th + 28) (c2 th 10)).toNat)) <|
          cl (f_X4_copy ((c2 (th + 28) (c2 th 10)).toNat) (th + 1) c2) fun _ c4 =>
          sto c4 th 10 ((c4 th 10) + 1) fun c6 =>
          some (0, c6)))) fun k1 =>
  bq ((c th 10) < 6) (
    k1 c) (
    cl (f_X8_dropOldest th c) fun _ c7 =>
    k1 c7)
noncomputable def f_X8_setVariables (th : Nat) (p1 : Int) (c : W0) : Option (Int × Int × W0) :=
  gd (R32 p1) <|
  jn (fun (u2 : Unit) =>
      some (1, 0, c)) fun k1 =>
  bq (p1 < 1) (
    k1 ()) (
    gd (R32 p1) <|
    bq (p1 ≤ 4) (
      cl (f_X8_saveState th c) fun _ c3 =>
      cl (f_X2_resize (th + 2) p1 c3) fun _ c5 =>
      cl (f_X4_start (th + 1) c5) fun _ c7 =>
      some (0, (c3 (th + 2) 0), c7)) (
      k1 ()))
noncomputable def f_X8_requireVariable (th : Nat) (p1 : Int) (c : W0) : Option (Int × Int × W0) :=
  gd (R32 p1) <|
  jn (fun (u2 : Unit) =>
      some (3, 0, c)) fun k1 =>
  bq (p1 < 0) (
    k1 ()) (
    gd (R32 p1 ∧ R32 (c (th + 2) 0)) <|
    bq (p1 < (c (th + 2) 0)) (
      some (0, 0, c)) (
      k1 ()))
noncomputable def f_X8_requireFactor (p1 : Int) (c : W0) : Option (Int × Int × W0) :=
  gd (R32 p1) <|
  jn (fun (u2 : Unit) =>
      some (1, 0, c)) fun k1 =>
  bq (p1 < (-9)) (
    k1 ()) (
    gd (R32 p1) <|
    bq (p1 ≤ 9) (
      some (0, 0, c)) (
      k1 ()))
noncomputable def f_X8_setProfit (th : Nat) (p1 : Int) (p2 : Int) (c : W0) : Option (Int × Int × W0) :=
  cx (f_X8_requireVariable th p1 c) fun _ c1 =>
  cx (f_X8_requireFactor p2 c1) fun _ c3 =>
  cl (f_X8_saveState th c3) fun _ c5 =>
  cv (f_X2_profit (th + 2) p1 c5) fun v7 =>
  cl (f_X2_putProfit (th + 2) p1 p2 c5) fun _ c8 =>
  cl (f_X4_start (th + 1) c8) fun _ c10 =>
  some (0, v7, c10)
noncomputable def f_X8_requireBound (p1 : Int) (c : W0) : Option (Int × Int × W0) :=
  gd (R32 p1) <|
  jn (fun (u2 : Unit) =>
      some (1, 0, c)) fun k1 =>
  bq (p1 < 0) (
    k1 ()) (
    gd (R32 p1) <|
    bq (p1 ≤ 99) (
      some (0, 0, c)) (
      k1 ()))
noncomputable def f_X8_addConstraint (th : Nat) (p1 : Int) (c : W0) : Option (Int × Int × W0) :=
  cx (f_X8_requireBound p1 c) fun _ c1 =>
  gd (R32 (c1 (th + 2) 1)) <|
  bq ((c1 (th + 2) 1) < 4) (
    cl (f_X8_saveState th c1) fun _ c3 =>
    cl (f_X2_add (th + 2) p1 c3) fun v5 c6 =>
    cl (f_X4_start (th + 1) c6) fun _ c7 =>
    some (0, v5, c7)) (
    some (2, 0, c1))
noncomputable def f_X8_requireConstraint (th : Nat) (p1 : Int) (c : W0) : Option (Int × Int × W0) :=
  gd (R32 p1) <|
  jn (fun (u2 : Unit) =>
      some (3, 0, c)) fun k1 =>
  bq (p1 < 0) (
    k1 ()) (
    gd (R32 p1 ∧ R32 (c (th + 2) 1)) <|
    bq (p1 < (c (th + 2) 1)) (
      some (0, 0, c)) (
      k1 ()))
noncomputable def f_X8_setCoefficient (th : Nat) (p1 : Int) (p2 : Int) (p3 : Int) (c : W0) : Option (Int × Int × W0) :=
  cx (f_X8_requireConstraint th p1 c) fun _ c1 =>
  cx (f_X8_requireVariable th p2 c1) fun _ c3 =>
  cx (f_X8_requireFactor p3 c3) fun _ c5 =>
  cl (f_X8_saveState th c5) fun _ c7 =>
  cv (f_X2_coefficient (th + 2) p1 p2 c7) fun v9 =>
  cl (f_X2_putCoefficient (th + 2) p1 p2 p3 c7) fun _ c10 =>
  cl (f_X4_start (th + 1) c10) fun _ c12 =>
  some (0, v9, c12)
noncomputable def f_X8_setBound (th : Nat) (p1 : Int) (p2 : Int) (c : W0) : Option (Int × Int × W0) :=
  cx (f_X8_requireConstraint th p1 c) fun _ c1 =>
  cx (f_X8_requireBound p2 c1) fun _ c3 =>
  cl (f_X8_saveState th c3) fun _ c5 =>
  cv (f_X2_bound (th + 2) p1 c5) fun v7 =>
  cl (f_X2_putBound (th + 2) p1 p2 c5) fun _ c8 =>
  cl (f_X4_start (th + 1) c8) fun _ c10 =>
  some (0, v7, c10)
noncomputable def f_X8_dropConstraint (th : Nat) (p1 : Int) (c : W0) : Option (Int × Int × W0) :=
  cx (f_X8_requireConstraint th p1 c) fun _ c1 =>
  cl (f_X8_saveState th c1) fun _ c3 =>
  cl (f_X2_drop (th + 2) p1 c3) fun _ c5 =>
  cl (f_X4_start (th + 1) c5) fun _ c7 =>
  some (0, (c7 (th + 2) 1), c7)
noncomputable def f_X8_begin (th : Nat) (c : W0) : Option (Int × W0) :=
  cl (f_X8_saveState th c) fun _ c1 =>
  cl (f_X4_start (th + 1) c1) fun _ c3 =>
  some ((c1 (th + 1) 3), c3)
noncomputable def f_X8_requireRow (th : Nat) (p1 : Int) (c : W0) : Option (Int × Int × W0) :=
  gd (R32 p1) <|
  jn (fun (u2 : Unit) =>
      some (3, 0, c)) fun k1 =>
  bq (p1 < 0) (
    k1 ()) (
    gd (R32 p1 ∧ R32 (c (th + 5) 0)) <|
    bq (p1 < (c (th + 5) 0)) (
      some (0, 0, c)) (
      k1 ()))
noncomputable def f_X8_requireColumn (th : Nat) (p1 : Int) (c : W0) : Option (Int × Int × W0) :=
  gd (R32 p1) <|
  jn (fun (u2 : Unit) =>
      some (3, 0, c)) fun k1 =>
  bq (p1 < 0) (
    k1 ()) (
    gd (R32 p1 ∧ R32 (c (th + 5) 1)) <|
    bq (p1 < (c (th + 5) 1)) (
      some (0, 0, c)) (
      k1 ()))
noncomputable def f_X8_pivot (th : Nat) (p1 : Int) (p2 : Int) (c : W0) : Option (Int × Int × W0) :=
  cx (f_X8_requireRow th p1 c) fun _ c1 =>
  cx (f_X8_requireColumn th p2 c1) fun _ c3 =>
  cv (f_X6_obstacle (th + 5) p1 p2 c3) fun v5 =>
  gd (R32 v5) <|
  bq (v5 = 0) (
    cl (f_X8_saveState th c3) fun _ c6 =>
    cv (f_X6_namedBy (th + 5) p1 c6) fun v8 =>
    cl (f_X4_turn (th + 1) p1 p2 c6) fun _ c9 =>
    some (0, v8, c9)) (
    some (2, 0, c3))
noncomputable def f_X8_requireOpen (th : Nat) (c : W0) : Option (Int × Int × W0) :=
  cv (f_X6_isOpen (th + 5) c) fun v1 =>
  gd (R32 v1) <|
  bq (v1 = 0) (
    some (2, 0, c)) (
    some (0, 0, c))
noncomputable def f_X8_step (th : Nat) (c : W0) : Option (Int × Int × W0) :=
  cx (f_X8_requireOpen th c) fun _ c1 =>
  cl (f_X8_saveState th c1) fun _ c3 =>
  cv (f_X4_chosenColumn (th + 1) c3) fun v5 =>
  cv (f_X6_leastRow (th + 5) v5 c3) fun v6 =>
  cl (f_X4_turn (th + 1) v6 v5 c3) fun _ c7 =>
  some (0, v5, c7)
noncomputable def f_X8_solve (th : Nat) (c : W0) : Option (Int × W0) :=
  cl (f_X8_saveState th c) fun _ c1 =>
  cl (f_X4_run (th + 1) c1) fun v3 c4 =>
  some (v3, c4)
noncomputable def f_X8_setRule (th : Nat) (p1 : Int) (c : W0) : Option (Int × Int × W0) :=
  gd (R32 p1) <|
  jn (fun (u2 : Unit) =>
      some (1, 0, c)) fun k1 =>
  bq (p1 < 0) (
    k1 ()) (
    gd (R32 p1) <|
    bq (p1 ≤ 2) (
      cl (f_X8_saveState th c) fun _ c3 =>
      sto c3 (th + 1) 2 p1 fun c5 =>
      some (0, (c3 (th + 1) 2), c5)) (
      k1 ()))
noncomputable def f_X8_append (th : Nat) (p1 : Int) (c : W0) : Option (Int × Int × W0) :=
  gd (R32 p1) <|
  jn (fun (u2 : Unit) =>
      some (1, 0, c)) fun k1 =>
  bq (p1 < 33) (
    k1 ()) (
    gd (R32 p1) <|
    bq (p1 ≤ 126) (
      gd (R32 (c (th + 29) 0)) <|
      bq ((c (th + 29) 0) < 60) (
        cl (f_X7_add (th + 29) p1 c) fun _ c3 =>
        some (0, (c3 (th + 29) 0), c3)) (
        some (2, 0, c))) (
      k1 ()))
noncomputable def f_X8_clearBuffer (th : Nat) (c : W0) : Option (Int × W0) :=
  cl (f_X7_clear (th + 29) c) fun _ c1 =>
  some ((c (th + 29) 0), c1)
noncomputable def f_X8_firstError (th : Nat) (c : W0) : Option (Int × W0) :=
  cl (f_X3_read (th + 35) (th + 29) c) fun v1 c2 =>
  some ((c2 (th + 35) 2), c2)
noncomputable def f_X8_load (th : Nat) (c : W0) : Option (Int × Int × W0) :=
  cl (f_X3_read (th + 35) (th + 29) c) fun v1 c2 =>
  gd (R32 v1) <|
  bq (v1 = 0) (
    some (1, 0, c2)) (
    cl (f_X8_saveState th c2) fun _ c3 =>
    cl (f_X2_copy (th + 2) (th + 39) c3) fun _ c5 =>
    cl (f_X4_start (th + 1) c5) fun _ c7 =>
    cl (f_X7_clear (th + 29) c7) fun _ c9 =>
    some (0, (c9 (th + 2) 1), c9))
noncomputable def f_X8_write (th : Nat) (c : W0) : Option (Int × Int × W0) :=
  cl (f_X7_clear (th + 32) c) fun _ c1 =>
  cl (f_X7_addProblem (th + 32) (th + 2) c1) fun _ c3 =>
  gd (R32 (c3 (th + 32) 0)) <|
  bq ((c3 (th + 32) 0) ≤ 60) (
    cl (f_X7_copy (th + 29) (th + 32) c3) fun _ c5 =>
    some (0, (c5 (th + 29) 0), c5)) (
    some (2, 0, c3))
noncomputable def f_X8_undo (th : Nat) (c : W0) : Option (Int × Int × W0) :=
  gd (R32 (c th 10)) <|
  jn (fun (u2 : Unit) =>
      some (2, 0, c)) fun k1 =>
  bq ((c th 10) < 1) (
    k1 ()) (
    gd (R32 (c th 10)) <|
    bq ((c th 10) ≤ 6) (
      sto c th 10 ((c th 10) - 1) fun c3 =>
      gd (0 ≤ (c3 th 10) ∧ (c3 th 10) < 6) <|
      gd (stP th ((c3 (th + 28) (c3 th 10)).toNat)) <|
      cl (f_X4_copy (th + 1) ((c3 (th + 28) (c3 th 10)).toNat) c3) fun _ c5 =>
      some (0, (c5 th 10), c5)) (
      k1 ()))
noncomputable def f_X8_keep (th : Nat) (c : W0) : Option (Int × W0) :=
  cl (f_X4_copy (th + 19) (th + 1) c) fun _ c1 =>
  sto c1 th 9 1 fun c3 =>
  some ((c3 (th + 1) 4), c3)
noncomputable def f_X8_restore (th : Nat) (c : W0) : Option (Int × Int × W0) :=
  gd (R32 (c th 9)) <|
  bq ((c th 9) = 0) (
    some (2, 0, c)) (
    cl (f_X8_saveState th c) fun _ c1 =>
    cl (f_X4_copy (th + 1) (th + 19) c1) fun _ c3 =>
    some (0, (c3 (th + 1) 4), c3))
noncomputable def f_X8_savedStates (th : Nat) (c : W0) : Option Int :=
  some (c th 10)
noncomputable def f_X8_variables (th : Nat) (c : W0) : Option Int :=
  some (c (th + 2) 0)
noncomputable def f_X8_constraints (th : Nat) (c : W0) : Option Int :=
  some (c (th + 2) 1)
noncomputable def f_X8_profitOf (th : Nat) (p1 : Int) (c : W0) : Option (Int × Int × W0) :=
  cx (f_X8_requireVariable th p1 c) fun _ c1 =>
  cv (f_X2_profit (th + 2) p1 c1) fun v3 =>
  some (0, v3, c1)
noncomputable def f_X8_coefficientOf (th : Nat) (p1 : Int) (p2 : Int) (c : W0) : Option (Int × Int × W0) :=
  cx (f_X8_requireConstraint th p1 c) fun _ c1 =>
  cx (f_X8_requireVariable th p2 c1) fun _ c3 =>
  cv (f_X2_coefficient (th + 2) p1 p2 c3) fun v5 =>
  some (0, v5, c3)
noncomputable def f_X8_boundOf (th : Nat) (p1 : Int) (c : W0) : Option (Int × Int × W0) :=
  cx (f_X8_requireConstraint th p1 c) fun _ c1 =>
  cv (f_X2_bound (th + 2) p1 c1) fun v3 =>
  some (0, v3, c1)
noncomputable def f_X8_rule (th : Nat) (c : W0) : Option Int :=
  some (c (th + 1) 2)
noncomputable def f_X8_columnOf (th : Nat) (p1 : Int) (c : W0) : Option (Int × Int × W0) :=
  cx (f_X8_requireRow th p1 c) fun _ c1 =>
  cv (f_X6_namedBy (th + 5) p1 c1) fun v3 =>
  some (0, v3, c1)
noncomputable def f_X8_isNamed (th : Nat) (p1 : Int) (c : W0) : Option (Int × Int × W0) :=
  cx (f_X8_requireColumn th p1 c) fun _ c1 =>
  cv (f_X6_rowNaming (th + 5) p1 c1) fun v3 =>
  gd (R32 v3) <|
  bq (v3 < 0) (
    some (0, 0, c1)) (
    some (0, 1, c1))
noncomputable def f_X8_isOptimal (th : Nat) (c : W0) : Option Int :=
  cv (f_X6_isBest (th + 5) c) fun v1 =>
  gd (0 ≤ v1 ∧ v1 ≤ 1) <|
  some v1
noncomputable def f_X8_hasRay (th : Nat) (c : W0) : Option Int :=
  cv (f_X6_openColumn (th + 5) c) fun v1 =>
  gd (R32 v1) <|
  bq (v1 < 0) (
    some 0) (
    some 1)
noncomputable def f_X8_pivots (th : Nat) (c : W0) : Option Int :=
  some (c (th + 1) 3)
noncomputable def f_X8_allPivots (th : Nat) (c : W0) : Option Int :=
  some (c (th + 1) 4)
noncomputable def f_X8_idlePivots (th : Nat) (c : W0) : Option Int :=
  some (c (th + 1) 5)
noncomputable def f_X8_entryNumerator (th : Nat) (p1 : Int) (p2 : Int) (c : W0) : Option (Int × Int × W0) :=
  cx (f_X8_requireRow th p1 c) fun _ c1 =>
  cx (f_X8_requireColumn th p2 c1) fun _ c3 =>
  cv (f_X6_entry (th + 5) p1 p2 c3) fun v5 =>
  cv (f_X8_lowNumerator v5 (c3 (th + 5) 2)) fun v6 =>
  some (0, v6, c3)
noncomputable def f_X8_entryDenominator (th : Nat) (p1 : Int) (p2 : Int) (c : W0) : Option (Int × Int × W0) :=
  cx (f_X8_requireRow th p1 c) fun _ c1 =>
  cx (f_X8_requireColumn th p2 c1) fun _ c3 =>
  cv (f_X6_entry (th + 5) p1 p2 c3) fun v5 =>
  cv (f_X8_lowDenominator v5 (c3 (th + 5) 2)) fun v6 =>
  some (0, v6, c3)
noncomputable def f_X8_reducedNumerator (th : Nat) (p1 : Int) (c : W0) : Option (Int × Int × W0) :=
  cx (f_X8_requireColumn th p1 c) fun _ c1 =>
  cv (f_X6_reduced (th + 5) p1 c1) fun v3 =>
  cv (f_X8_lowNumerator v3 (c1 (th + 5) 2)) fun v4 =>
  some (0, v4, c1)
noncomputable def f_X8_reducedDenominator (th : Nat) (p1 : Int) (c : W0) : Option (Int × Int × W0) :=
  cx (f_X8_requireColumn th p1 c) fun _ c1 =>
  cv (f_X6_reduced (th + 5) p1 c1) fun v3 =>
  cv (f_X8_lowDenominator v3 (c1 (th + 5) 2)) fun v4 =>
  some (0, v4, c1)
noncomputable def f_X8_valueNumerator (th : Nat) (c : W0) : Option Int :=
  cv (f_X6_worth (th + 5) c) fun v1 =>
  cv (f_X8_lowNumerator v1 (c (th + 5) 2)) fun v2 =>
  some v2
noncomputable def f_X8_valueDenominator (th : Nat) (c : W0) : Option Int :=
  cv (f_X6_worth (th + 5) c) fun v1 =>
  cv (f_X8_lowDenominator v1 (c (th + 5) 2)) fun v2 =>
  some v2
noncomputable def f_X8_givenNumerator (th : Nat) (p1 : Int) (c : W0) : Option (Int × Int × W0) :=
  cx (f_X8_requireColumn th p1 c) fun _ c1 =>
  cv (f_X6_given (th + 5) p1 c1) fun v3 =>
  cv (f_X8_lowNumerator v3 (c1 (th + 5) 2)) fun v4 =>
  some (0, v4, c1)
noncomputable def f_X8_givenDenominator (th : Nat) (p1 : Int) (c : W0) : Option (Int × Int × W0) :=
  cx (f_X8_requireColumn th p1 c) fun _ c1 =>
  cv (f_X6_given (th + 5) p1 c1) fun v3 =>
  cv (f_X8_lowDenominator v3 (c1 (th + 5) 2)) fun v4 =>
  some (0, v4, c1)
noncomputable def f_X8_value (th : Nat) (c : W0) : Option UInt64 :=
  cv (f_X8_valueNumerator th c) fun v1 =>
  cv (f_X8_valueDenominator th c) fun v2 =>
  gd (vf_n64 (FP.ddiv (FP.l2d (i64 v1)) (FP.l2d (i64 v2)))) <|
  some (FP.ddiv (FP.l2d (i64 v1)) (FP.l2d (i64 v2)))
noncomputable def f_X8_dualNumerator (th : Nat) (p1 : Int) (c : W0) : Option (Int × Int × W0) :=
  cx (f_X8_requireConstraint th p1 c) fun _ c1 =>
  cv (f_X4_dual (th + 1) p1 c1) fun v3 =>
  cv (f_X8_lowNumerator v3 (c1 (th + 5) 2)) fun v4 =>
  some (0, v4, c1)
noncomputable def f_X8_dualDenominator (th : Nat) (p1 : Int) (c : W0) : Option (Int × Int × W0) :=
  cx (f_X8_requireConstraint th p1 c) fun _ c1 =>
  cv (f_X4_dual (th + 1) p1 c1) fun v3 =>
  cv (f_X8_lowDenominator v3 (c1 (th + 5) 2)) fun v4 =>
  some (0, v4, c1)
noncomputable def f_X8_dualNumeratorByEquations (th : Nat) (p1 : Int) (c : W0) : Option (Int × Int × W0) :=
  cx (f_X8_requireConstraint th p1 c) fun _ c1 =>
  cl (f_X0_solveDuals (th + 42) (th + 1) c1) fun v3 c4 =>
  cv (f_X0_unknown (th + 42) p1 c4) fun v5 =>
  cv (f_X8_lowNumerator v5 (c4 (th + 42) 1)) fun v6 =>
  some (0, v6, c4)
noncomputable def f_X8_dualDenominatorByEquations (th : Nat) (p1 : Int) (c : W0) : Option (Int × Int × W0) :=
  cx (f_X8_requireConstraint th p1 c) fun _ c1 =>
  cl (f_X0_solveDuals (th + 42) (th + 1) c1) fun v3 c4 =>
  cv (f_X0_unknown (th + 42) p1 c4) fun v5 =>
  cv (f_X8_lowDenominator v5 (c4 (th + 42) 1)) fun v6 =>
  some (0, v6, c4)
noncomputable def f_X8_dualValueNumerator (th : Nat) (c : W0) : Option Int :=
  cv (f_X4_dualWorth (th + 1) c) fun v1 =>
  cv (f_X8_lowNumerator v1 (c (th + 5) 2)) fun v2 =>
  some v2
noncomputable def f_X8_dualValueDenominator (th : Nat) (c : W0) : Option Int :=
  cv (f_X4_dualWorth (th + 1) c) fun v1 =>
  cv (f_X8_lowDenominator v1 (c (th + 5) 2)) fun v2 =>
  some v2
noncomputable def f_X8_requireRay (th : Nat) (c : W0) : Option (Int × Int × W0) :=
  cv (f_X6_openColumn (th + 5) c) fun v1 =>
  gd (R32 v1) <|
  bq (0 ≤ v1) (
    some (0, 0, c)) (
    some (2, 0, c))
noncomputable def f_X8_rayColumn (th : Nat) (c : W0) : Option (Int × Int × W0) :=
  cx (f_X8_requireRay th c) fun _ c1 =>
  cv (f_X6_openColumn (th + 5) c1) fun v3 =>
  some (0, v3, c1)
noncomputable def f_X8_rayNumerator (th : Nat) (p1 : Int) (c : W0) : Option (Int × Int × W0) :=
  cx (f_X8_requireColumn th p1 c) fun _ c1 =>
  cx (f_X8_requireRay th c1) fun _ c3 =>
  cv (f_X6_growth (th + 5) p1 c3) fun v5 =>
  cv (f_X8_lowNumerator v5 (c3 (th + 5) 2)) fun v6 =>
  some (0, v6, c3)
noncomputable def f_X8_rayDenominator (th : Nat) (p1 : Int) (c : W0) : Option (Int × Int × W0) :=
  cx (f_X8_requireColumn th p1 c) fun _ c1 =>
  cx (f_X8_requireRay th c1) fun _ c3 =>
  cv (f_X6_growth (th + 5) p1 c3) fun v5 =>
  cv (f_X8_lowDenominator v5 (c3 (th + 5) 2)) fun v6 =>
  some (0, v6, c3)
noncomputable def f_X8_feasibleBases (th : Nat) (c : W0) : Option (Int × W0) :=
  cl (f_X5_look (th + 45) (th + 2) c) fun _ c1 =>
  some ((c1 (th + 45) 2), c1)
noncomputable def f_X8_unlikeValues (th : Nat) (c : W0) : Option (Int × W0) :=
  cl (f_X5_look (th + 45) (th + 2) c) fun _ c1 =>
  some ((c1 (th + 45) 3), c1)
noncomputable def f_X8_bestNumerator (th : Nat) (c : W0) : Option (Int × W0) :=
  cl (f_X5_look (th + 45) (th + 2) c) fun _ c1 =>
  some ((c1 (th + 45) 4), c1)
noncomputable def f_X8_bestDenominator (th : Nat) (c : W0) : Option (Int × W0) :=
  cl (f_X5_look (th + 45) (th + 2) c) fun _ c1 =>
  some ((c1 (th + 45) 5), c1)
noncomputable def f_X8_whyNoPivot (th : Nat) (p1 : Int) (p2 : Int) (c : W0) : Option (Int × Int × W0) :=
  cx (f_X8_requireRow th p1 c) fun _ c1 =>
  cx (f_X8_requireColumn th p2 c1) fun _ c3 =>
  cv (f_X6_obstacle (th + 5) p1 p2 c3) fun v5 =>
  some (0, v5, c3)
noncomputable def f_X8_nextColumn (th : Nat) (c : W0) : Option (Int × Int × W0) :=
  cx (f_X8_requireOpen th c) fun _ c1 =>
  cv (f_X4_chosenColumn (th + 1) c1) fun v3 =>
  some (0, v3, c1)
noncomputable def f_X8_nextRow (th : Nat) (c : W0) : Option (Int × Int × W0) :=
  cx (f_X8_requireOpen th c) fun _ c1 =>
  cv (f_X4_chosenColumn (th + 1) c1) fun v3 =>
  cv (f_X6_leastRow (th + 5) v3 c1) fun v4 =>
  some (0, v4, c1)
noncomputable def f_X8_pivotsLeft (th : Nat) (c : W0) : Option (Int × W0) :=
  cl (f_X4_copy (th + 10) (th + 1) c) fun _ c1 =>
  cl (f_X4_run (th + 10) c1) fun v3 c4 =>
  some (v3, c4)
noncomputable def f_X8_leastBound (th : Nat) (p1 : Int) (c : W0) : Option (Int × Int × W0) :=
  cx (f_X8_requireConstraint th p1 c) fun _ c1 =>
  cv (f_X2_bound (th + 2) p1 c1) fun v3 =>
  cv (f_X4_roomToFall (th + 1) p1 c1) fun v4 =>
  gd (R32 (v3 - v4)) <|
  some (0, (if 0 < (v3 - v4) then (v3 - v4) else 0), c1)
noncomputable def f_X8_greatestBound (th : Nat) (p1 : Int) (c : W0) : Option (Int × Int × W0) :=
  cx (f_X8_requireConstraint th p1 c) fun _ c1 =>
  cv (f_X2_bound (th + 2) p1 c1) fun v3 =>
  cv (f_X4_roomToRise (th + 1) p1 c1) fun v4 =>
  gd (R32 (v3 + v4)) <|
  some (0, (if (v3 + v4) < 99 then (v3 + v4) else 99), c1)
noncomputable def f_X8_tryBound (th : Nat) (p1 : Int) (p2 : Int) (c : W0) : Option (Int × Int × W0) :=
  cx (f_X8_requireConstraint th p1 c) fun _ c1 =>
  cx (f_X8_requireBound p2 c1) fun _ c3 =>
  cl (f_X4_copy (th + 10) (th + 1) c3) fun _ c5 =>
  cl (f_X2_putBound (th + 11) p1 p2 c5) fun _ c7 =>
  cl (f_X4_start (th + 10) c7) fun _ c9 =>
  cl (f_X4_run (th + 10) c9) fun v11 c12 =>
  cv (f_X6_isBest (th + 14) c12) fun v13 =>
  gd (R32 v13) <|
  bq (v13 = 0) (
    some (2, 0, c12)) (
    some (0, 0, c12))
noncomputable def f_X8_solvedNumerator (th : Nat) (p1 : Int) (p2 : Int) (c : W0) : Option (Int × Int × W0) :=
  cx (f_X8_tryBound th p1 p2 c) fun _ c1 =>
  cv (f_X6_worth (th + 14) c1) fun v3 =>
  cv (f_X8_lowNumerator v3 (c1 (th + 14) 2)) fun v4 =>
  some (0, v4, c1)
noncomputable def f_X8_solvedDenominator (th : Nat) (p1 : Int) (p2 : Int) (c : W0) : Option (Int × Int × W0) :=
  cx (f_X8_tryBound th p1 p2 c) fun _ c1 =>
  cv (f_X6_worth (th + 14) c1) fun v3 =>
  cv (f_X8_lowDenominator v3 (c1 (th + 14) 2)) fun v4 =>
  some (0, v4, c1)
noncomputable def f_X8_mix (p1 : Int) (p2 : Int) : Option Int :=
  some ((31 * p1) + p2)
noncomputable def f_X8_mixTruth (p1 : Int) (p2 : Int) : Option Int :=
  gd (R32 p2) <|
  bq (p2 = 0) (
    cv (f_X8_mix p1 0) fun v1 =>
    some v1) (
    cv (f_X8_mix p1 1) fun v2 =>
    some v2)
noncomputable def f_X8_mixCounts (th : Nat) (p1 : Int) (c : W0) : Option Int :=
  gd (R32 (c (th + 2) 0)) <|
  cv (f_X8_mix p1 (c (th + 2) 0)) fun v1 =>
  gd (R32 (c (th + 2) 1)) <|
  cv (f_X8_mix v1 (c (th + 2) 1)) fun v2 =>
  gd (R32 (c (th + 1) 2)) <|
  cv (f_X8_mix v2 (c (th + 1) 2)) fun v3 =>
  cv (f_X8_isOptimal th c) fun v4 =>
  cv (f_X8_mixTruth v3 v4) fun v5 =>
  cv (f_X8_hasRay th c) fun v6 =>
  cv (f_X8_mixTruth v5 v6) fun v7 =>
  gd (R32 (c (th + 1) 3)) <|
  cv (f_X8_mix v7 (c (th + 1) 3)) fun v8 =>
  gd (R32 (c (th + 1) 4)) <|
  cv (f_X8_mix v8 (c (th + 1) 4)) fun v9 =>
  gd (R32 (c (th + 1) 5)) <|
  cv (f_X8_mix v9 (c (th + 1) 5)) fun v10 =>
  some v10
noncomputable def f_X8_mixFraction (p1 : Int) (p2 : Int) (p3 : Int) : Option Int :=
  cv (f_X8_lowNumerator p2 p3) fun v1 =>
  cv (f_X8_mix p1 v1) fun v2 =>
  cv (f_X8_lowDenominator p2 p3) fun v3 =>
  cv (f_X8_mix v2 v3) fun v4 =>
  some v4
noncomputable def f_X8_mixValues (th : Nat) (p1 : Int) (c : W0) : Option (Int × W0) :=
  cv (f_X6_worth (th + 5) c) fun v1 =>
  cv (f_X8_mixFraction p1 v1 (c (th + 5) 2)) fun v2 =>
  cv (f_X4_dualWorth (th + 1) c) fun v3 =>
  cv (f_X8_mixFraction v2 v3 (c (th + 5) 2)) fun v4 =>
  cl (f_X5_look (th + 45) (th + 2) c) fun _ c5 =>
  gd (R32 (c5 (th + 45) 2)) <|
  cv (f_X8_mix v4 (c5 (th + 45) 2)) fun v7 =>
  gd (R32 (c5 (th + 45) 3)) <|
  cv (f_X8_mix v7 (c5 (th + 45) 3)) fun v8 =>
  cv (f_X8_mix v8 (c5 (th + 45) 4)) fun v9 =>
  cv (f_X8_mix v9 (c5 (th + 45) 5)) fun v10 =>
  some (v10, c5)
noncomputable def b_X8_mixProblem_5 (th : Nat) (c : W0) (κ : Int → Option (Int × W0)) (rec : Int → Int → Option (Int × W0)) (l3 : Int) (l5 : Int) : Option (Int × W0) :=
  gd (R32 l5 ∧ R32 (c (th + 2) 0)) <|
  bq ((c (th + 2) 0) ≤ l5) (
    κ l3) (
    cv (f_X2_profit (th + 2) l5 c) fun v1 =>
    gd (R32 v1) <|
    cv (f_X8_mix l3 v1) fun v2 =>
    rec v2 (l5 + 1))
noncomputable def f_X8_mixProblem_5 (th : Nat) (c : W0) (κ : Int → Option (Int × W0)) : Nat → Int → Int → Option (Int × W0)
  | 0, _, _ => none
  | n + 1, l3, l5 => b_X8_mixProblem_5 th c κ (f_X8_mixProblem_5 th c κ n) l3 l5
theorem f_X8_mixProblem_5_s {th : Nat} {c : W0} {κ : Int → Option (Int × W0)} {n : Nat} {l3 : Int} {l5 : Int} : f_X8_mixProblem_5 th c κ (n + 1) l3 l5 = b_X8_mixProblem_5 th c κ (f_X8_mixProblem_5 th c κ n) l3 l5 := rfl
noncomputable def b_X8_mixProblem_77 (th : Nat) (l5 : Int) (c : W0) (κ : Int → Option (Int × W0)) (rec : Int → Int → Option (Int × W0)) (l3 : Int) (l6 : Int) : Option (Int × W0) :=
  gd (R32 l6 ∧ R32 (c (th + 2) 0)) <|
  bq ((c (th + 2) 0) ≤ l6) (
    κ l3) (
    cv (f_X2_coefficient (th + 2) l5 l6 c) fun v1 =>
    gd (R32 v1) <|
    cv (f_X8_mix l3 v1) fun v2 =>
    rec v2 (l6 + 1))
noncomputable def f_X8_mixProblem_77 (th : Nat) (l5 : Int) (c : W0) (κ : Int → Option (Int × W0)) : Nat → Int → Int → Option (Int × W0)
  | 0, _, _ => none
  | n + 1, l3, l6 => b_X8_mixProblem_77 th l5 c κ (f_X8_mixProblem_77 th l5 c κ n) l3 l6
theorem f_X8_mixProblem_77_s {th : Nat} {l5 : Int} {c : W0} {κ : Int → Option (Int × W0)} {n : Nat} {l3 : Int} {l6 : Int} : f_X8_mixProblem_77 th l5 c κ (n + 1) l3 l6 = b_X8_mixProblem_77 th l5 c κ (f_X8_mixProblem_77 th l5 c κ n) l3 l6 := rfl
noncomputable def b_X8_mixProblem_59 (th : Nat) (κ : Int → W0 → Option (Int × W0)) (rec : Int → Int → W0 → Option (Int × W0)) (l3 : Int) (l5 : Int) (c : W0) : Option (Int × W0) :=
  gd (R32 l5 ∧ R32 (c (th + 2) 1)) <|
  bq ((c (th + 2) 1) ≤ l5) (
    κ l3 c) (
    f_X8_mixProblem_77 th l5 c (fun v1 =>
        cv (f_X2_bound (th + 2) l5 c) fun v2 =>
        gd (R32 v2) <|
        cv (f_X8_mix v1 v2) fun v3 =>
        cv (f_X4_dual (th + 1) l5 c) fun v4 =>
        cv (f_X8_mixFraction v3 v4 (c (th + 5) 2)) fun v5 =>
        cv (f_X0_unknown (th + 42) l5 c) fun v6 =>
        cv (f_X8_mixFraction v5 v6 (c (th + 42) 1)) fun v7 =>
        cn (f_X8_leastBound th l5 c) fun v8 c9 =>
        gd (R32 v8) <|
        cv (f_X8_mix v7 v8) fun v10 =>
        cn (f_X8_greatestBound th l5 c9) fun v11 c12 =>
        gd (R32 v11) <|
        cv (f_X8_mix v10 v11) fun v13 =>
        rec v13 (l5 + 1) c12) LF l3 0)
noncomputable def f_X8_mixProblem_59 (th : Nat) (κ : Int → W0 → Option (Int × W0)) : Nat → Int → Int → W0 → Option (Int × W0)
  | 0, _, _, _ => none
  | n + 1, l3, l5, c => b_X8_mixProblem_59 th κ (f_X8_mixProblem_59 th κ n) l3 l5 c
theorem f_X8_mixProblem_59_s {th : Nat} {κ : Int → W0 → Option (Int × W0)} {n : Nat} {l3 : Int} {l5 : Int} {c : W0} : f_X8_mixProblem_59 th κ (n + 1) l3 l5 c = b_X8_mixProblem_59 th κ (f_X8_mixProblem_59 th κ n) l3 l5 c := rfl
noncomputable def f_X8_mixProblem (th : Nat) (p1 : Int) (c : W0) : Option (Int × W0) :=
  f_X8_mixProblem_5 th c (fun v1 =>
      cl (f_X0_solveDuals (th + 42) (th + 1) c) fun v2 c3 =>
      f_X8_mixProblem_59 th (fun v4 c5 =>
          some (v4, c5)) 5 v1 0 c3) LF p1 0
noncomputable def b_X8_mixColumns_5 (th : Nat) (c : W0) (κ : Int → Option Int) (rec : Int → Int → Option Int) (l3 : Int) (l5 : Int) : Option Int :=
  gd (R32 l5 ∧ R32 (c (th + 5) 1)) <|
  bq ((c (th + 5) 1) ≤ l5) (
    κ l3) (
    cv (f_X6_rowNaming (th + 5) l5 c) fun v1 =>
    gd (R32 v1) <|
    jn (fun (v3 : Int) =>
        cv (f_X8_mixTruth l3 v3) fun v4 =>
        cv (f_X6_reduced (th + 5) l5 c) fun v5 =>
        cv (f_X8_mixFraction v4 v5 (c (th + 5) 2)) fun v6 =>
        cv (f_X6_given (th + 5) l5 c) fun v7 =>
        cv (f_X8_mixFraction v6 v7 (c (th + 5) 2)) fun v8 =>
        rec v8 (l5 + 1)) fun k2 =>
    bq (v1 < 0) (
      k2 0) (
      k2 1))
noncomputable def f_X8_mixColumns_5 (th : Nat) (c : W0) (κ : Int → Option Int) : Nat → Int → Int → Option Int
  | 0, _, _ => none
  | n + 1, l3, l5 => b_X8_mixColumns_5 th c κ (f_X8_mixColumns_5 th c κ n) l3 l5
theorem f_X8_mixColumns_5_s {th : Nat} {c : W0} {κ : Int → Option Int} {n : Nat} {l3 : Int} {l5 : Int} : f_X8_mixColumns_5 th c κ (n + 1) l3 l5 = b_X8_mixColumns_5 th c κ (f_X8_mixColumns_5 th c κ n) l3 l5 := rfl
noncomputable def f_X8_mixColumns (th : Nat) (p1 : Int) (c : W0) : Option Int :=
  f_X8_mixColumns_5 th c (fun v1 =>
      some v1) LF p1 0
noncomputable def b_X8_mixRows_41 (th : Nat) (l5 : Int) (c : W0) (κ : Int → Option Int) (rec : Int → Int → Option Int) (l3 : Int) (l6 : Int) : Option Int :=
  gd (R32 l6 ∧ R32 (c (th + 5) 1)) <|
  bq ((c (th + 5) 1) ≤ l6) (
    κ l3) (
    cv (f_X6_entry (th + 5) l5 l6 c) fun v1 =>
    cv (f_X8_mixFraction l3 v1 (c (th + 5) 2)) fun v2 =>
    rec v2 (l6 + 1))
noncomputable def f_X8_mixRows_41 (th : Nat) (l5 : Int) (c : W0) (κ : Int → Option Int) : Nat → Int → Int → Option Int
  | 0, _, _ => none
  | n + 1, l3, l6 => b_X8_mixRows_41 th l5 c κ (f_X8_mixRows_41 th l5 c κ n) l3 l6
theorem f_X8_mixRows_41_s {th : Nat} {l5 : Int} {c : W0} {κ : Int → Option Int} {n : Nat} {l3 : Int} {l6 : Int} : f_X8_mixRows_41 th l5 c κ (n + 1) l3 l6 = b_X8_mixRows_41 th l5 c κ (f_X8_mixRows_41 th l5 c κ n) l3 l6 := rfl
noncomputable def b_X8_mixRows_5 (th : Nat) (c : W0) (κ : Int → Option Int) (rec : Int → Int → Option Int) (l3 : Int) (l5 : Int) : Option Int :=
  gd (R32 l5 ∧ R32 (c (th + 5) 0)) <|
  bq ((c (th + 5) 0) ≤ l5) (
    κ l3) (
    cv (f_X6_namedBy (th + 5) l5 c) fun v1 =>
    gd (R32 v1) <|
    cv (f_X8_mix l3 v1) fun v2 =>
    f_X8_mixRows_41 th l5 c (fun v3 =>
        rec v3 (l5 + 1)) LF v2 0)
noncomputable def f_X8_mixRows_5 (th : Nat) (c : W0) (κ : Int → Option Int) : Nat → Int → Int → Option Int
  | 0, _, _ => none
  | n + 1, l3, l5 => b_X8_mixRows_5 th c κ (f_X8_mixRows_5 th c κ n) l3 l5
theorem f_X8_mixRows_5_s {th : Nat} {c : W0} {κ : Int → Option Int} {n : Nat} {l3 : Int} {l5 : Int} : f_X8_mixRows_5 th c κ (n + 1) l3 l5 = b_X8_mixRows_5 th c κ (f_X8_mixRows_5 th c κ n) l3 l5 := rfl
noncomputable def f_X8_mixRows (th : Nat) (p1 : Int) (c : W0) : Option Int :=
  f_X8_mixRows_5 th c (fun v1 =>
      some v1) LF p1 0
noncomputable def f_X8_mixNext (th : Nat) (p1 : Int) (c : W0) : Option Int :=
  cv (f_X8_hasRay th c) fun v1 =>
  gd (R32 v1) <|
  bq (v1 = 0) (
    cv (f_X8_isOptimal th c) fun v2 =>
    gd (R32 v2) <|
    bq (v2 = 0) (
      cv (f_X4_chosenColumn (th + 1) c) fun v3 =>
      gd (R32 v3) <|
      cv (f_X8_mix p1 v3) fun v4 =>
      cv (f_X6_leastRow (th + 5) v3 c) fun v5 =>
      gd (R32 v5) <|
      cv (f_X8_mix v4 v5) fun v6 =>
      some v6) (
      some p1)) (
    cv (f_X6_openColumn (th + 5) c) fun v7 =>
    gd (R32 v7) <|
    cv (f_X8_mix p1 v7) fun v8 =>
    some v8)
noncomputable def b_X8_bitsOf_18  (κ : UInt64 → Int → Option Int) (rec : UInt64 → Int → Int → Option Int) (l2 : UInt64) (l4 : Int) (l6 : Int) : Option Int :=
  gd (R32 l6) <|
  bq (64 ≤ l6) (
    κ l2 l4) (
    bq ((Op.cmpValue (FP.dcmp l2 (4611686018427387904 : UInt64)) .l) < 0) (
      κ l2 l4) (
      gd (vf_n64 (FP.ddiv l2 (4611686018427387904 : UInt64))) <|
      rec (FP.ddiv l2 (4611686018427387904 : UInt64)) (l4 + 1) (l6 + 1)))
noncomputable def f_X8_bitsOf_18  (κ : UInt64 → Int → Option Int) : Nat → UInt64 → Int → Int → Option Int
  | 0, _, _, _ => none
  | n + 1, l2, l4, l6 => b_X8_bitsOf_18  κ (f_X8_bitsOf_18  κ n) l2 l4 l6
theorem f_X8_bitsOf_18_s  {κ : UInt64 → Int → Option Int} {n : Nat} {l2 : UInt64} {l4 : Int} {l6 : Int} : f_X8_bitsOf_18  κ (n + 1) l2 l4 l6 = b_X8_bitsOf_18  κ (f_X8_bitsOf_18  κ n) l2 l4 l6 := rfl
noncomputable def b_X8_bitsOf_54  (κ : UInt64 → Int → Option Int) (rec : UInt64 → Int → Int → Option Int) (l2 : UInt64) (l4 : Int) (l6 : Int) : Option Int :=
  gd (R32 l6) <|
  bq (64 ≤ l6) (
    κ l2 l4) (
    bq ((Op.cmpValue (FP.dcmp l2 FP.dconst1) .g) < 0) (
      gd (vf_n64 (FP.dmul l2 (4611686018427387904 : UInt64))) <|
      rec (FP.dmul l2 (4611686018427387904 : UInt64)) (l4 - 1) (l6 + 1)) (
      κ l2 l4))
noncomputable def f_X8_bitsOf_54  (κ : UInt64 → Int → Option Int) : Nat → UInt64 → Int → Int → Option Int
  | 0, _, _, _ => none
  | n + 1, l2, l4, l6 => b_X8_bitsOf_54  κ (f_X8_bitsOf_54  κ n) l2 l4 l6
theorem f_X8_bitsOf_54_s  {κ : UInt64 → Int → Option Int} {n : Nat} {l2 : UInt64} {l4 : Int} {l6 : Int} : f_X8_bitsOf_54  κ (n + 1) l2 l4 l6 = b_X8_bitsOf_54  κ (f_X8_bitsOf_54  κ n) l2 l4 l6 := rfl
noncomputable def f_X8_bitsOf (p1 : UInt64) : Option Int :=
  bq (0 < (Op.cmpValue (FP.dcmp p1 FP.dconst0) .g)) (
    f_X8_bitsOf_18  (fun v1 v2 =>
        f_X8_bitsOf_54  (fun v3 v4 =>
            gd (vf_n64 (FP.dsub v3 FP.dconst1)) <|
            gd (vf_n64 (FP.dmul (FP.dsub v3 FP.dconst1) (4841369599423283200 : UInt64))) <|
            some ((lshlZ v4 52) + (FP.d2l (FP.dmul (FP.dsub v3 FP.dconst1) (4841369599423283200 : UInt64))).toInt)) LF v1 v2 0) LF p1 1023 0) (
    some 0)
noncomputable def b_X8_mixBuffer_16 (th : Nat) (c : W0) (κ : Int → Option Int) (rec : Int → Int → Option Int) (l3 : Int) (l5 : Int) : Option Int :=
  gd (R32 l5 ∧ R32 (c (th + 29) 0)) <|
  bq ((c (th + 29) 0) ≤ l5) (
    κ l3) (
    cv (f_X7_codeAt (th + 29) l5 c) fun v1 =>
    gd (R32 v1) <|
    cv (f_X8_mix l3 v1) fun v2 =>
    rec v2 (l5 + 1))
noncomputable def f_X8_mixBuffer_16 (th : Nat) (c : W0) (κ : Int → Option Int) : Nat → Int → Int → Option Int
  | 0, _, _ => none
  | n + 1, l3, l5 => b_X8_mixBuffer_16 th c κ (f_X8_mixBuffer_16 th c κ n) l3 l5
theorem f_X8_mixBuffer_16_s {th : Nat} {c : W0} {κ : Int → Option Int} {n : Nat} {l3 : Int} {l5 : Int} : f_X8_mixBuffer_16 th c κ (n + 1) l3 l5 = b_X8_mixBuffer_16 th c κ (f_X8_mixBuffer_16 th c κ n) l3 l5 := rfl
noncomputable def f_X8_mixBuffer (th : Nat) (p1 : Int) (c : W0) : Option Int :=
  gd (R32 (c (th + 29) 0)) <|
  cv (f_X8_mix p1 (c (th + 29) 0)) fun v1 =>
  f_X8_mixBuffer_16 th c (fun v2 =>
      some v2) LF v1 0
noncomputable def f_X8_digest (th : Nat) (c : W0) : Option (Int × W0) :=
  cv (f_X8_mixCounts th 4339 c) fun v1 =>
  cl (f_X8_mixValues th v1 c) fun v2 c3 =>
  cl (f_X8_pivotsLeft th c3) fun v4 c5 =>
  gd (R32 v4) <|
  cv (f_X8_mix v2 v4) fun v6 =>
  gd (R32 (c5 th 10)) <|
  cv (f_X8_mix v6 (c5 th 10)) fun v7 =>
  cl (f_X8_mixProblem th v7 c5) fun v8 c9 =>
  cv (f_X8_mixColumns th v8 c9) fun v10 =>
  cv (f_X8_mixRows th v10 c9) fun v11 =>
  cv (f_X8_mixNext th v11 c9) fun v12 =>
  cv (f_X8_value th c9) fun v13 =>
  cv (f_X8_bitsOf v13) fun v14 =>
  cv (f_X8_mix v12 v14) fun v15 =>
  cv (f_X8_mixBuffer th v15 c9) fun v16 =>
  some (v16, c9)
noncomputable def f_X9_thrown (th : Nat) (c : W0) : Option Int :=
  some (c th 0)
noncomputable def f_X9_in (p1 : Int) (p2 : Int) (p3 : Int) : Option Int :=
  gd (R32 p1 ∧ R32 p2) <|
  bq (p1 < p2) (
    some 0) (
    gd (R32 p1 ∧ R32 p3) <|
    bq (p3 < p1) (
      some 0) (
      some 1))
noncomputable def f_X9_holds (th : Nat) (p1 : Int) (c : W0) : Option (Int × W0) :=
  sto c th 0 p1 fun c1 =>
  gd (R32 p1) <|
  bq (p1 = 0) (
    some (1, c1)) (
    some (0, c1))
noncomputable def f_X9_isVariable (th : Nat) (p1 : Int) (c : W0) : Option Int :=
  cv (f_X9_in p1 0 ((c (th + 1) 0) - 1)) fun v1 =>
  gd (0 ≤ v1 ∧ v1 ≤ 1) <|
  some v1
noncomputable def f_X9_isConstraint (th : Nat) (p1 : Int) (c : W0) : Option Int :=
  cv (f_X9_in p1 0 ((c (th + 1) 1) - 1)) fun v1 =>
  gd (0 ≤ v1 ∧ v1 ≤ 1) <|
  some v1
noncomputable def f_X9_columns (th : Nat) (c : W0) : Option Int :=
  some ((c (th + 1) 0) + (c (th + 1) 1))
noncomputable def f_X9_isColumn (th : Nat) (p1 : Int) (c : W0) : Option Int :=
  cv (f_X9_columns th c) fun v1 =>
  cv (f_X9_in p1 0 (v1 - 1)) fun v2 =>
  gd (0 ≤ v2 ∧ v2 ≤ 1) <|
  some v2
noncomputable def b_X9_save_51 (th : Nat) (κ : W0 → Option (Int × W0)) (rec : Int → W0 → Option (Int × W0)) (l1 : Int) (c : W0) : Option (Int × W0) :=
  gd (R32 l1) <|
  bq (34 ≤ l1) (
    κ c) (
    gd (0 ≤ l1 ∧ l1 < 34) <|
    gd (0 ≤ ((34 * (c th 4)) + l1) ∧ ((34 * (c th 4)) + l1) < 204) <|
    sto c (th + 3) ((34 * (c th 4)) + l1) (c (th + 1) l1) fun c1 =>
    rec (l1 + 1) c1)
noncomputable def f_X9_save_51 (th : Nat) (κ : W0 → Option (Int × W0)) : Nat → Int → W0 → Option (Int × W0)
  | 0, _, _ => none
  | n + 1, l1, c => b_X9_save_51 th κ (f_X9_save_51 th κ n) l1 c
theorem f_X9_save_51_s {th : Nat} {κ : W0 → Option (Int × W0)} {n : Nat} {l1 : Int} {c : W0} : f_X9_save_51 th κ (n + 1) l1 c = b_X9_save_51 th κ (f_X9_save_51 th κ n) l1 c := rfl
noncomputable def b_X9_save_11 (th : Nat) (κ : W0 → Option (Int × W0)) (rec : Int → W0 → Option (Int × W0)) (l1 : Int) (c : W0) : Option (Int × W0) :=
  gd (R32 l1) <|
  bq (170 ≤ l1) (
    κ c) (
    gd (0 ≤ (l1 + 34) ∧ (l1 + 34) < 204) <|
    gd (0 ≤ l1 ∧ l1 < 204) <|
    sto c (th + 3) l1 (c (th + 3) (l1 + 34)) fun c1 =>
    rec (l1 + 1) c1)
noncomputable def f_X9_save_11 (th : Nat) (κ : W0 → Option (Int × W0)) : Nat → Int → W0 → Option (Int × W0)
  | 0, _, _ => none
  | n + 1, l1, c => b_X9_save_11 th κ (f_X9_save_11 th κ n) l1 c
theorem f_X9_save_11_s {th : Nat} {κ : W0 → Option (Int × W0)} {n : Nat} {l1 : Int} {c : W0} : f_X9_save_11 th κ (n + 1) l1 c = b_X9_save_11 th κ (f_X9_save_11 th κ n) l1 c := rfl
noncomputable def f_X9_save (th : Nat) (c : W0) : Option (Int × W0) :=
  gd (R32 (c th 4)) <|
  bq ((c th 4) = 6) (
    f_X9_save_11 th (fun c3 =>
        sto c3 th 4 ((c3 th 4) - 1) fun c4 =>
        f_X9_save_51 th (fun c5 =>
            sto c5 th 4 ((c5 th 4) + 1) fun c6 =>
            some (0, c6)) LF 0 c4) LF 0 c) (
    f_X9_save_51 th (fun c1 =>
        sto c1 th 4 ((c1 th 4) + 1) fun c2 =>
        some (0, c2)) LF 0 c)
noncomputable def b_X9_putAside_2 (th : Nat) (κ : W0 → Option (Int × W0)) (rec : Int → W0 → Option (Int × W0)) (l1 : Int) (c : W0) : Option (Int × W0) :=
  gd (R32 l1) <|
  bq (34 ≤ l1) (
    κ c) (
    gd (0 ≤ l1 ∧ l1 < 34) <|
    gd (0 ≤ l1 ∧ l1 < 34) <|
    sto c (th + 2) l1 (c (th + 1) l1) fun c1 =>
    rec (l1 + 1) c1)
noncomputable def f_X9_putAside_2 (th : Nat) (κ : W0 → Option (Int × W0)) : Nat → Int → W0 → Option (Int × W0)
  | 0, _, _ => none
  | n + 1, l1, c => b_X9_putAside_2 th κ (f_X9_putAside_2 th κ n) l1 c
theorem f_X9_putAside_2_s {th : Nat} {κ : W0 → Option (Int × W0)} {n : Nat} {l1 : Int} {c : W0} : f_X9_putAside_2 th κ (n + 1) l1 c = b_X9_putAside_2 th κ (f_X9_putAside_2 th κ n) l1 c := rfl
noncomputable def f_X9_putAside (th : Nat) (c : W0) : Option (Int × W0) :=
  f_X9_putAside_2 th (fun c1 =>
      some (0, c1)) LF 0 c
noncomputable def b_X9_putBack_2 (th : Nat) (κ : W0 → Option (Int × W0)) (rec : Int → W0 → Option (Int × W0)) (l1 : Int) (c : W0) : Option (Int × W0) :=
  gd (R32 l1) <|
  bq (34 ≤ l1) (
    κ c) (
    gd (0 ≤ l1 ∧ l1 < 34) <|
    gd (0 ≤ l1 ∧ l1 < 34) <|
    sto c (th + 1) l1 (c (th + 2) l1) fun c1 =>
    rec (l1 + 1) c1)
noncomputable def f_X9_putBack_2 (th : Nat) (κ : W0 → Option (Int × W0)) : Nat → Int → W0 → Option (Int × W0)
  | 0, _, _ => none
  | n + 1, l1, c => b_X9_putBack_2 th κ (f_X9_putBack_2 th κ n) l1 c
theorem f_X9_putBack_2_s {th : Nat} {κ : W0 → Option (Int × W0)} {n : Nat} {l1 : Int} {c : W0} : f_X9_putBack_2 th κ (n + 1) l1 c = b_X9_putBack_2 th κ (f_X9_putBack_2 th κ n) l1 c := rfl
noncomputable def f_X9_putBack (th : Nat) (c : W0) : Option (Int × W0) :=
  f_X9_putBack_2 th (fun c1 =>
      some (0, c1)) LF 0 c
noncomputable def b_X9_begins_2 (th : Nat) (κ : W0 → Option (Int × W0)) (rec : Int → W0 → Option (Int × W0)) (l1 : Int) (c : W0) : Option (Int × W0) :=
  gd (R32 l1) <|
  bq (4 ≤ l1) (
    κ c) (
    gd (R32 l1 ∧ R32 (c (th + 1) 1)) <|
    bq ((c (th + 1) 1) ≤ l1) (
      gd (0 ≤ (27 + l1) ∧ (27 + l1) < 34) <|
      sto c (th + 1) (27 + l1) 0 fun c1 =>
      rec (l1 + 1) c1) (
      gd (0 ≤ (27 + l1) ∧ (27 + l1) < 34) <|
      sto c (th + 1) (27 + l1) ((c (th + 1) 0) + l1) fun c2 =>
      rec (l1 + 1) c2))
noncomputable def f_X9_begins_2 (th : Nat) (κ : W0 → Option (Int × W0)) : Nat → Int → W0 → Option (Int × W0)
  | 0, _, _ => none
  | n + 1, l1, c => b_X9_begins_2 th κ (f_X9_begins_2 th κ n) l1 c
theorem f_X9_begins_2_s {th : Nat} {κ : W0 → Option (Int × W0)} {n : Nat} {l1 : Int} {c : W0} : f_X9_begins_2 th κ (n + 1) l1 c = b_X9_begins_2 th κ (f_X9_begins_2 th κ n) l1 c := rfl
noncomputable def f_X9_begins (th : Nat) (c : W0) : Option (Int × W0) :=
  f_X9_begins_2 th (fun c1 =>
      sto c1 (th + 1) 31 0 fun c2 =>
      some (0, c2)) LF 0 c
noncomputable def b_X9_divisor_28  (κ : Int → Option Int) (rec : Int → Int → Option Int) (l4 : Int) (l6 : Int) : Option Int :=
  gd (R64 l6) <|
  bq (l6 = 0) (
    κ l4) (
    gd (¬ l6 = 0 ∧ R64 l4 ∧ R64 l6) <|
    rec l6 (Int.tmod l4 l6))
noncomputable def f_X9_divisor_28  (κ : Int → Option Int) : Nat → Int → Int → Option Int
  | 0, _, _ => none
  | n + 1, l4, l6 => b_X9_divisor_28  κ (f_X9_divisor_28  κ n) l4 l6
theorem f_X9_divisor_28_s  {κ : Int → Option Int} {n : Nat} {l4 : Int} {l6 : Int} : f_X9_divisor_28  κ (n + 1) l4 l6 = b_X9_divisor_28  κ (f_X9_divisor_28  κ n) l4 l6 := rfl
noncomputable def f_X9_divisor (p1 : Int) (p2 : Int) : Option Int :=
  gd (R64 p1) <|
  jn (fun (v2 : Int) =>
      gd (R64 p2) <|
      jn (fun (v4 : Int) =>
          f_X9_divisor_28  (fun v5 =>
              some v5) LF v2 v4) fun k3 =>
      bq (0 ≤ p2) (
        k3 p2) (
        k3 (-p2))) fun k1 =>
  bq (0 ≤ p1) (
    k1 p1) (
    k1 (-p1))
noncomputable def f_X9_becomes (th : Nat) (p1 : Int) (p2 : Int) (c : W0) : Option (Int × W0) :=
  cv (f_X9_divisor p1 p2) fun v1 =>
  gd (R64 p2) <|
  jn (fun (v3 : Int) =>
      gd (¬ v3 = 0 ∧ R64 p1 ∧ R64 v3) <|
      sto c th 16 (Int.tdiv p1 v3) fun c4 =>
      gd (¬ v3 = 0 ∧ R64 p2 ∧ R64 v3) <|
      sto c4 th 17 (Int.tdiv p2 v3) fun c5 =>
      some (0, c5)) fun k2 =>
  bq (0 ≤ p2) (
    k2 v1) (
    k2 (-v1))
noncomputable def f_X9_adds (th : Nat) (p1 : Int) (p2 : Int) (p3 : Int) (c : W0) : Option (Int × W0) :=
  cl (f_X9_becomes th (((c th 16) * p3) + ((p1 * p2) * (c th 17))) ((c th 17) * p3) c) fun _ c1 =>
  some (0, c1)
noncomputable def f_X9_firstFactor (th : Nat) (p1 : Int) (p2 : Int) (c : W0) : Option Int :=
  gd (R32 p2) <|
  bq (p2 = 8) (
    gd (0 ≤ (22 + p1) ∧ (22 + p1) < 34) <|
    some (c (th + 1) (22 + p1))) (
    gd (R32 p2 ∧ R32 (c (th + 1) 0)) <|
    bq ((c (th + 1) 0) ≤ p2) (
      gd (R32 (p2 - (c (th + 1) 0)) ∧ R32 p1) <|
      bq ((p2 - (c (th + 1) 0)) = p1) (
        some 1) (
        some 0)) (
      gd (0 ≤ ((6 + (4 * p1)) + p2) ∧ ((6 + (4 * p1)) + p2) < 34) <|
      some (c (th + 1) ((6 + (4 * p1)) + p2))))
noncomputable def b_X9_lessens_3 (th : Nat) (p1 : Int) (p2 : Int) (p3 : Int) (p4 : Int) (κ : W0 → Option (Int × W0)) (rec : Int → W0 → Option (Int × W0)) (l7 : Int) (c : W0) : Option (Int × W0) :=
  gd (R32 l7) <|
  bq (9 ≤ l7) (
    κ c) (
    gd (0 ≤ ((9 * p1) + l7) ∧ ((9 * p1) + l7) < 36) <|
    gd (0 ≤ ((9 * p2) + l7) ∧ ((9 * p2) + l7) < 36) <|
    gd (0 ≤ ((9 * p2) + l7) ∧ ((9 * p2) + l7) < 36) <|
    gd (0 ≤ ((9 * p1) + l7) ∧ ((9 * p1) + l7) < 36) <|
    gd (0 ≤ ((9 * p1) + l7) ∧ ((9 * p1) + l7) < 36) <|
    gd (0 ≤ ((9 * p2) + l7) ∧ ((9 * p2) + l7) < 36) <|
    cl (f_X9_becomes th ((((c (th + 10) ((9 * p1) + l7)) * p4) * (c (th + 11) ((9 * p2) + l7))) - ((p3 * (c (th + 10) ((9 * p2) + l7))) * (c (th + 11) ((9 * p1) + l7)))) (((c (th + 11) ((9 * p1) + l7)) * p4) * (c (th + 11) ((9 * p2) + l7))) c) fun _ c1 =>
    gd (0 ≤ ((9 * p1) + l7) ∧ ((9 * p1) + l7) < 36) <|
    sto c1 (th + 10) ((9 * p1) + l7) (c1 th 16) fun c3 =>
    gd (0 ≤ ((9 * p1) + l7) ∧ ((9 * p1) + l7) < 36) <|
    sto c3 (th + 11) ((9 * p1) + l7) (c3 th 17) fun c4 =>
    rec (l7 + 1) c4)
noncomputable def f_X9_lessens_3 (th : Nat) (p1 : Int) (p2 : Int) (p3 : Int) (p4 : Int) (κ : W0 → Option (Int × W0)) : Nat → Int → W0 → Option (Int × W0)
  | 0, _, _ => none
  | n + 1, l7, c => b_X9_lessens_3 th p1 p2 p3 p4 κ (f_X9_lessens_3 th p1 p2 p3 p4 κ n) l7 c
theorem f_X9_lessens_3_s {th : Nat} {p1 : Int} {p2 : Int} {p3 : Int} {p4 : Int} {κ : W0 → Option (Int × W0)} {n : Nat} {l7 : Int} {c : W0} : f_X9_lessens_3 th p1 p2 p3 p4 κ (n + 1) l7 c = b_X9_lessens_3 th p1 p2 p3 p4 κ (f_X9_lessens_3 th p1 p2 p3 p4 κ n) l7 c := rfl
noncomputable def f_X9_lessens (th : Nat) (p1 : Int) (p2 : Int) (p3 : Int) (p4 : Int) (c : W0) : Option (Int × W0) :=
  f_X9_lessens_3 th p1 p2 p3 p4 (fun c1 =>
      some (0, c1)) LF 0 c
noncomputable def b_X9_divides_3 (th : Nat) (p1 : Int) (p2 : Int) (p3 : Int) (κ : W0 → Option (Int × W0)) (rec : Int → W0 → Option (Int × W0)) (l6 : Int) (c : W0) : Option (Int × W0) :=
  gd (R32 l6) <|
  bq (9 ≤ l6) (
    κ c) (
    gd (0 ≤ ((9 * p1) + l6) ∧ ((9 * p1) + l6) < 36) <|
    gd (0 ≤ ((9 * p1) + l6) ∧ ((9 * p1) + l6) < 36) <|
    cl (f_X9_becomes th ((c (th + 10) ((9 * p1) + l6)) * p3) ((c (th + 11) ((9 * p1) + l6)) * p2) c) fun _ c1 =>
    gd (0 ≤ ((9 * p1) + l6) ∧ ((9 * p1) + l6) < 36) <|
    sto c1 (th + 10) ((9 * p1) + l6) (c1 th 16) fun c3 =>
    gd (0 ≤ ((9 * p1) + l6) ∧ ((9 * p1) + l6) < 36) <|
    sto c3 (th + 11) ((9 * p1) + l6) (c3 th 17) fun c4 =>
    rec (l6 + 1) c4)
noncomputable def f_X9_divides_3 (th : Nat) (p1 : Int) (p2 : Int) (p3 : Int) (κ : W0 → Option (Int × W0)) : Nat → Int → W0 → Option (Int × W0)
  | 0, _, _ => none
  | n + 1, l6, c => b_X9_divides_3 th p1 p2 p3 κ (f_X9_divides_3 th p1 p2 p3 κ n) l6 c
theorem f_X9_divides_3_s {th : Nat} {p1 : Int} {p2 : Int} {p3 : Int} {κ : W0 → Option (Int × W0)} {n : Nat} {l6 : Int} {c : W0} : f_X9_divides_3 th p1 p2 p3 κ (n + 1) l6 c = b_X9_divides_3 th p1 p2 p3 κ (f_X9_divides_3 th p1 p2 p3 κ n) l6 c := rfl
noncomputable def f_X9_divides (th : Nat) (p1 : Int) (p2 : Int) (p3 : Int) (c : W0) : Option (Int × W0) :=
  f_X9_divides_3 th p1 p2 p3 (fun c1 =>
      some (0, c1)) LF 0 c
noncomputable def b_X9_freeRow_12 (th : Nat) (p1 : Int) (p2 : Int) (c : W0) (κ : Int → Option Int) (rec : Int → Int → Option Int) (l3 : Int) (l4 : Int) : Option Int :=
  gd (R32 l4) <|
  bq (l4 < 0) (
    κ l3) (
    gd (R32 (iandZ (ishrZ p2 l4) 1)) <|
    bq ((iandZ (ishrZ p2 l4) 1) = 0) (
      gd (0 ≤ ((9 * l4) + p1) ∧ ((9 * l4) + p1) < 36) <|
      gd (R64 (c (th + 10) ((9 * l4) + p1))) <|
      bq ((c (th + 10) ((9 * l4) + p1)) = 0) (
        rec l3 (l4 + (-1))) (
        rec l4 (l4 + (-1)))) (
      rec l3 (l4 + (-1))))
noncomputable def f_X9_freeRow_12 (th : Nat) (p1 : Int) (p2 : Int) (c : W0) (κ : Int → Option Int) : Nat → Int → Int → Option Int
  | 0, _, _ => none
  | n + 1, l3, l4 => b_X9_freeRow_12 th p1 p2 c κ (f_X9_freeRow_12 th p1 p2 c κ n) l3 l4
theorem f_X9_freeRow_12_s {th : Nat} {p1 : Int} {p2 : Int} {c : W0} {κ : Int → Option Int} {n : Nat} {l3 : Int} {l4 : Int} : f_X9_freeRow_12 th p1 p2 c κ (n + 1) l3 l4 = b_X9_freeRow_12 th p1 p2 c κ (f_X9_freeRow_12 th p1 p2 c κ n) l3 l4 := rfl
noncomputable def f_X9_freeRow (th : Nat) (p1 : Int) (p2 : Int) (c : W0) : Option Int :=
  f_X9_freeRow_12 th p1 p2 c (fun v1 =>
      some v1) LF (-1) ((c (th + 1) 1) - 1)
noncomputable def b_X9_lays_2 (th : Nat) (κ : W0 → Option (Int × W0)) (rec : Int → W0 → Option (Int × W0)) (l1 : Int) (c : W0) : Option (Int × W0) :=
  gd (R32 l1 ∧ R32 (9 * (c (th + 1) 1))) <|
  bq ((9 * (c (th + 1) 1)) ≤ l1) (
    κ c) (
    gd (R32 l1) <|
    cv (f_X9_columns th c) fun v1 =>
    gd (R32 (Int.tmod l1 9) ∧ R32 v1) <|
    jn (fun (u3 : Unit) =>
        gd (R32 l1) <|
        cv (f_X9_firstFactor th (Int.tdiv l1 9) (Int.tmod l1 9) c) fun v4 =>
        gd (R32 v4) <|
        gd (0 ≤ l1 ∧ l1 < 36) <|
        sto c (th + 10) l1 v4 fun c5 =>
        gd (0 ≤ l1 ∧ l1 < 36) <|
        sto c5 (th + 11) l1 1 fun c6 =>
        rec (l1 + 1) c6) fun k2 =>
    bq ((Int.tmod l1 9) < v1) (
      k2 ()) (
      gd (R32 (Int.tmod l1 9)) <|
      bq ((Int.tmod l1 9) = 8) (
        k2 ()) (
        gd (0 ≤ l1 ∧ l1 < 36) <|
        sto c (th + 10) l1 0 fun c7 =>
        gd (0 ≤ l1 ∧ l1 < 36) <|
        sto c7 (th + 11) l1 1 fun c8 =>
        rec (l1 + 1) c8)))
noncomputable def f_X9_lays_2 (th : Nat) (κ : W0 → Option (Int × W0)) : Nat → Int → W0 → Option (Int × W0)
  | 0, _, _ => none
  | n + 1, l1, c => b_X9_lays_2 th κ (f_X9_lays_2 th κ n) l1 c
theorem f_X9_lays_2_s {th : Nat} {κ : W0 → Option (Int × W0)} {n : Nat} {l1 : Int} {c : W0} : f_X9_lays_2 th κ (n + 1) l1 c = b_X9_lays_2 th κ (f_X9_lays_2 th κ n) l1 c := rfl
noncomputable def b_X9_lays_152 (th : Nat) (l1 : Int) (l2 : Int) (l3 : Int) (κ : W0 → Option (Int × W0)) (rec : Int → W0 → Option (Int × W0)) (l4 : Int) (c : W0) : Option (Int × W0) :=
  gd (R32 l4 ∧ R32 (c (th + 1) 1)) <|
  bq ((c (th + 1) 1) ≤ l4) (
    κ c) (
    gd (R32 l4 ∧ R32 l3) <|
    bq (l4 = l3) (
      rec (l4 + 1) c) (
      gd (0 ≤ l2 ∧ l2 < 4) <|
      gd (0 ≤ ((9 * l4) + (c (th + 8) l2)) ∧ ((9 * l4) + (c (th + 8) l2)) < 36) <|
      gd (0 ≤ l2 ∧ l2 < 4) <|
      gd (0 ≤ ((9 * l4) + (c (th + 8) l2)) ∧ ((9 * l4) + (c (th + 8) l2)) < 36) <|
      cl (f_X9_lessens th l4 l3 (c (th + 10) ((9 * l4) + (c (th + 8) l2))) (c (th + 11) ((9 * l4) + (c (th + 8) l2))) c) fun _ c1 =>
      rec (l4 + 1) c1))
noncomputable def f_X9_lays_152 (th : Nat) (l1 : Int) (l2 : Int) (l3 : Int) (κ : W0 → Option (Int × W0)) : Nat → Int → W0 → Option (Int × W0)
  | 0, _, _ => none
  | n + 1, l4, c => b_X9_lays_152 th l1 l2 l3 κ (f_X9_lays_152 th l1 l2 l3 κ n) l4 c
theorem f_X9_lays_152_s {th : Nat} {l1 : Int} {l2 : Int} {l3 : Int} {κ : W0 → Option (Int × W0)} {n : Nat} {l4 : Int} {c : W0} : f_X9_lays_152 th l1 l2 l3 κ (n + 1) l4 c = b_X9_lays_152 th l1 l2 l3 κ (f_X9_lays_152 th l1 l2 l3 κ n) l4 c := rfl
noncomputable def b_X9_lays_71 (th : Nat) (κ : W0 → Option (Int × W0)) (rec : Int → Int → W0 → Option (Int × W0)) (l1 : Int) (l2 : Int) (c : W0) : Option (Int × W0) :=
  gd (R32 l2 ∧ R32 (c (th + 1) 1)) <|
  bq ((c (th + 1) 1) ≤ l2) (
    κ c) (
    gd (0 ≤ l2 ∧ l2 < 4) <|
    cv (f_X9_freeRow th (c (th + 8) l2) l1 c) fun v1 =>
    gd (R32 v1) <|
    bq (0 ≤ v1) (
      gd (0 ≤ l2 ∧ l2 < 4) <|
      sto c (th + 9) l2 v1 fun c2 =>
      gd (0 ≤ l2 ∧ l2 < 4) <|
      gd (0 ≤ ((9 * v1) + (c2 (th + 8) l2)) ∧ ((9 * v1) + (c2 (th + 8) l2)) < 36) <|
      gd (0 ≤ l2 ∧ l2 < 4) <|
      gd (0 ≤ ((9 * v1) + (c2 (th + 8) l2)) ∧ ((9 * v1) + (c2 (th + 8) l2)) < 36) <|
      cl (f_X9_divides th v1 (c2 (th + 10) ((9 * v1) + (c2 (th + 8) l2))) (c2 (th + 11) ((9 * v1) + (c2 (th + 8) l2))) c2) fun _ c3 =>
      f_X9_lays_152 th (iorZ l1 (ishlZ 1 v1)) l2 v1 (fun c5 =>
          rec (iorZ l1 (ishlZ 1 v1)) (l2 + 1) c5) LF 0 c3) (
      some (0, c)))
noncomputable def f_X9_lays_71 (th : Nat) (κ : W0 → Option (Int × W0)) : Nat → Int → Int → W0 → Option (Int × W0)
  | 0, _, _, _ => none
  | n + 1, l1, l2, c => b_X9_lays_71 th κ (f_X9_lays_71 th κ n) l1 l2 c
theorem f_X9_lays_71_s {th : Nat} {κ : W0 → Option (Int × W0)} {n : Nat} {l1 : Int} {l2 : Int} {c : W0} : f_X9_lays_71 th κ (n + 1) l1 l2 c = b_X9_lays_71 th κ (f_X9_lays_71 th κ n) l1 l2 c := rfl
noncomputable def b_X9_lays_224 (th : Nat) (κ : W0 → Option (Int × W0)) (rec : Int → W0 → Option (Int × W0)) (l2 : Int) (c : W0) : Option (Int × W0) :=
  gd (R32 l2 ∧ R32 (9 * (c (th + 1) 1))) <|
  bq ((9 * (c (th + 1) 1)) ≤ l2) (
    κ c) (
    gd (R32 l2) <|
    gd (0 ≤ (Int.tdiv l2 9) ∧ (Int.tdiv l2 9) < 4) <|
    gd (R32 l2) <|
    gd (0 ≤ ((9 * (c (th + 9) (Int.tdiv l2 9))) + (Int.tmod l2 9)) ∧ ((9 * (c (th + 9) (Int.tdiv l2 9))) + (Int.tmod l2 9)) < 36) <|
    gd (0 ≤ l2 ∧ l2 < 36) <|
    sto c (th + 6) l2 (c (th + 10) ((9 * (c (th + 9) (Int.tdiv l2 9))) + (Int.tmod l2 9))) fun c1 =>
    gd (R32 l2) <|
    gd (0 ≤ (Int.tdiv l2 9) ∧ (Int.tdiv l2 9) < 4) <|
    gd (R32 l2) <|
    gd (0 ≤ ((9 * (c1 (th + 9) (Int.tdiv l2 9))) + (Int.tmod l2 9)) ∧ ((9 * (c1 (th + 9) (Int.tdiv l2 9))) + (Int.tmod l2 9)) < 36) <|
    gd (0 ≤ l2 ∧ l2 < 36) <|
    sto c1 (th + 7) l2 (c1 (th + 11) ((9 * (c1 (th + 9) (Int.tdiv l2 9))) + (Int.tmod l2 9))) fun c2 =>
    rec (l2 + 1) c2)
noncomputable def f_X9_lays_224 (th : Nat) (κ : W0 → Option (Int × W0)) : Nat → Int → W0 → Option (Int × W0)
  | 0, _, _ => none
  | n + 1, l2, c => b_X9_lays_224 th κ (f_X9_lays_224 th κ n) l2 c
theorem f_X9_lays_224_s {th : Nat} {κ : W0 → Option (Int × W0)} {n : Nat} {l2 : Int} {c : W0} : f_X9_lays_224 th κ (n + 1) l2 c = b_X9_lays_224 th κ (f_X9_lays_224 th κ n) l2 c := rfl
noncomputable def f_X9_lays (th : Nat) (c : W0) : Option (Int × W0) :=
  f_X9_lays_2 th (fun c1 =>
      f_X9_lays_71 th (fun c2 =>
          f_X9_lays_224 th (fun c3 =>
              some (1, c3)) LF 0 c2) LF 0 0 c1) LF 0 c
noncomputable def b_X9_laysNow_2 (th : Nat) (κ : W0 → Option (Int × W0)) (rec : Int → W0 → Option (Int × W0)) (l1 : Int) (c : W0) : Option (Int × W0) :=
  gd (R32 l1 ∧ R32 (c (th + 1) 1)) <|
  bq ((c (th + 1) 1) ≤ l1) (
    κ c) (
    gd (0 ≤ (27 + l1) ∧ (27 + l1) < 34) <|
    gd (0 ≤ l1 ∧ l1 < 4) <|
    sto c (th + 8) l1 (c (th + 1) (27 + l1)) fun c1 =>
    rec (l1 + 1) c1)
noncomputable def f_X9_laysNow_2 (th : Nat) (κ : W0 → Option (Int × W0)) : Nat → Int → W0 → Option (Int × W0)
  | 0, _, _ => none
  | n + 1, l1, c => b_X9_laysNow_2 th κ (f_X9_laysNow_2 th κ n) l1 c
theorem f_X9_laysNow_2_s {th : Nat} {κ : W0 → Option (Int × W0)} {n : Nat} {l1 : Int} {c : W0} : f_X9_laysNow_2 th κ (n + 1) l1 c = b_X9_laysNow_2 th κ (f_X9_laysNow_2 th κ n) l1 c := rfl
noncomputable def f_X9_laysNow (th : Nat) (c : W0) : Option (Int × W0) :=
  f_X9_laysNow_2 th (fun c1 =>
      cl (f_X9_lays th c1) fun v2 c3 =>
      some (0, c3)) LF 0 c
noncomputable def f_X9_profit (th : Nat) (p1 : Int) (c : W0) : Option Int :=
  gd (R32 p1 ∧ R32 (c (th + 1) 0)) <|
  bq ((c (th + 1) 0) ≤ p1) (
    some 0) (
    gd (0 ≤ (2 + p1) ∧ (2 + p1) < 34) <|
    some (c (th + 1) (2 + p1)))
noncomputable def f_X9_entry (th : Nat) (p1 : Int) (p2 : Int) (c : W0) : Option Int :=
  gd (0 ≤ ((9 * p1) + p2) ∧ ((9 * p1) + p2) < 36) <|
  some (c (th + 6) ((9 * p1) + p2))
noncomputable def b_X9_isFeasible_4 (th : Nat) (c : W0) (κ : Int → Option Int) (rec : Int → Int → Option Int) (l1 : Int) (l2 : Int) : Option Int :=
  gd (R32 l2 ∧ R32 (c (th + 1) 1)) <|
  bq ((c (th + 1) 1) ≤ l2) (
    κ l1) (
    gd (R32 l1) <|
    bq (l1 = 0) (
      rec 0 (l2 + 1)) (
      cv (f_X9_entry th l2 8 c) fun v1 =>
      gd (R64 v1) <|
      bq (v1 < 0) (
        rec 0 (l2 + 1)) (
        rec 1 (l2 + 1))))
noncomputable def f_X9_isFeasible_4 (th : Nat) (c : W0) (κ : Int → Option Int) : Nat → Int → Int → Option Int
  | 0, _, _ => none
  | n + 1, l1, l2 => b_X9_isFeasible_4 th c κ (f_X9_isFeasible_4 th c κ n) l1 l2
theorem f_X9_isFeasible_4_s {th : Nat} {c : W0} {κ : Int → Option Int} {n : Nat} {l1 : Int} {l2 : Int} : f_X9_isFeasible_4 th c κ (n + 1) l1 l2 = b_X9_isFeasible_4 th c κ (f_X9_isFeasible_4 th c κ n) l1 l2 := rfl
noncomputable def f_X9_isFeasible (th : Nat) (c : W0) : Option Int :=
  f_X9_isFeasible_4 th c (fun v1 =>
      gd (0 ≤ v1 ∧ v1 ≤ 1) <|
      some v1) LF 1 0
noncomputable def b_X9_values_8 (th : Nat) (κ : W0 → Option (Int × W0)) (rec : Int → W0 → Option (Int × W0)) (l1 : Int) (c : W0) : Option (Int × W0) :=
  gd (R32 l1 ∧ R32 (c (th + 1) 1)) <|
  bq ((c (th + 1) 1) ≤ l1) (
    κ c) (
    gd (0 ≤ l1 ∧ l1 < 4) <|
    cv (f_X9_profit th (c (th + 8) l1) c) fun v1 =>
    gd (R32 v1) <|
    cv (f_X9_entry th l1 8 c) fun v2 =>
    gd (0 ≤ (((9 * l1) + 9) - 1) ∧ (((9 * l1) + 9) - 1) < 36) <|
    cl (f_X9_adds th v1 v2 (c (th + 7) (((9 * l1) + 9) - 1)) c) fun _ c3 =>
    rec (l1 + 1) c3)
noncomputable def f_X9_values_8 (th : Nat) (κ : W0 → Option (Int × W0)) : Nat → Int → W0 → Option (Int × W0)
  | 0, _, _ => none
  | n + 1, l1, c => b_X9_values_8 th κ (f_X9_values_8 th κ n) l1 c
theorem f_X9_values_8_s {th : Nat} {κ : W0 → Option (Int × W0)} {n : Nat} {l1 : Int} {c : W0} : f_X9_values_8 th κ (n + 1) l1 c = b_X9_values_8 th κ (f_X9_values_8 th κ n) l1 c := rfl
noncomputable def f_X9_values (th : Nat) (c : W0) : Option (Int × W0) :=
  cl (f_X9_becomes th 0 1 c) fun _ c1 =>
  f_X9_values_8 th (fun c3 =>
      some (0, c3)) LF 0 c1
noncomputable def b_X9_reduces_13 (th : Nat) (p1 : Int) (κ : W0 → Option (Int × W0)) (rec : Int → W0 → Option (Int × W0)) (l2 : Int) (c : W0) : Option (Int × W0) :=
  gd (R32 l2 ∧ R32 (c (th + 1) 1)) <|
  bq ((c (th + 1) 1) ≤ l2) (
    κ c) (
    gd (0 ≤ l2 ∧ l2 < 4) <|
    cv (f_X9_profit th (c (th + 8) l2) c) fun v1 =>
    gd (R32 (-v1)) <|
    cv (f_X9_entry th l2 p1 c) fun v2 =>
    gd (0 ≤ ((9 * l2) + p1) ∧ ((9 * l2) + p1) < 36) <|
    cl (f_X9_adds th (-v1) v2 (c (th + 7) ((9 * l2) + p1)) c) fun _ c3 =>
    rec (l2 + 1) c3)
noncomputable def f_X9_reduces_13 (th : Nat) (p1 : Int) (κ : W0 → Option (Int × W0)) : Nat → Int → W0 → Option (Int × W0)
  | 0, _, _ => none
  | n + 1, l2, c => b_X9_reduces_13 th p1 κ (f_X9_reduces_13 th p1 κ n) l2 c
theorem f_X9_reduces_13_s {th : Nat} {p1 : Int} {κ : W0 → Option (Int × W0)} {n : Nat} {l2 : Int} {c : W0} : f_X9_reduces_13 th p1 κ (n + 1) l2 c = b_X9_reduces_13 th p1 κ (f_X9_reduces_13 th p1 κ n) l2 c := rfl
noncomputable def f_X9_reduces (th : Nat) (p1 : Int) (c : W0) : Option (Int × W0) :=
  cv (f_X9_profit th p1 c) fun v1 =>
  gd (R32 v1) <|
  cl (f_X9_becomes th v1 1 c) fun _ c2 =>
  f_X9_reduces_13 th p1 (fun c4 =>
      some (0, c4)) LF 0 c2
noncomputable def f_X9_isRising (th : Nat) (p1 : Int) (c : W0) : Option (Int × W0) :=
  cl (f_X9_reduces th p1 c) fun _ c1 =>
  gd (R64 (c1 th 16)) <|
  bq ((c1 th 16) ≤ 0) (
    some (0, c1)) (
    some (1, c1))
noncomputable def b_X9_hasEntry_4 (th : Nat) (p1 : Int) (c : W0) (κ : Int → Option Int) (rec : Int → Int → Option Int) (l2 : Int) (l3 : Int) : Option Int :=
  gd (R32 l3 ∧ R32 (c (th + 1) 1)) <|
  bq ((c (th + 1) 1) ≤ l3) (
    κ l2) (
    gd (R32 l2) <|
    jn (fun (u2 : Unit) =>
        rec 1 (l3 + 1)) fun k1 =>
    bq (l2 = 0) (
      cv (f_X9_entry th l3 p1 c) fun v3 =>
      gd (R64 v3) <|
      bq (v3 ≤ 0) (
        rec 0 (l3 + 1)) (
        k1 ())) (
      k1 ()))
noncomputable def f_X9_hasEntry_4 (th : Nat) (p1 : Int) (c : W0) (κ : Int → Option Int) : Nat → Int → Int → Option Int
  | 0, _, _ => none
  | n + 1, l2, l3 => b_X9_hasEntry_4 th p1 c κ (f_X9_hasEntry_4 th p1 c κ n) l2 l3
theorem f_X9_hasEntry_4_s {th : Nat} {p1 : Int} {c : W0} {κ : Int → Option Int} {n : Nat} {l2 : Int} {l3 : Int} : f_X9_hasEntry_4 th p1 c κ (n + 1) l2 l3 = b_X9_hasEntry_4 th p1 c κ (f_X9_hasEntry_4 th p1 c κ n) l2 l3 := rfl
noncomputable def f_X9_hasEntry (th : Nat) (p1 : Int) (c : W0) : Option Int :=
  f_X9_hasEntry_4 th p1 c (fun v1 =>
      gd (0 ≤ v1 ∧ v1 ≤ 1) <|
      some v1) LF 0 0
noncomputable def b_X9_isBest_4 (th : Nat) (κ : Int → W0 → Option (Int × W0)) (rec : Int → Int → W0 → Option (Int × W0)) (l1 : Int) (l2 : Int) (c : W0) : Option (Int × W0) :=
  cv (f_X9_columns th c) fun v1 =>
  gd (R32 l2 ∧ R32 v1) <|
  bq (v1 ≤ l2) (
    κ l1 c) (
    gd (R32 l1) <|
    bq (l1 = 0) (
      rec 0 (l2 + 1) c) (
      cl (f_X9_isRising th l2 c) fun v2 c3 =>
      gd (R32 v2) <|
      bq (v2 = 0) (
        rec 1 (l2 + 1) c3) (
        rec 0 (l2 + 1) c3)))
noncomputable def f_X9_isBest_4 (th : Nat) (κ : Int → W0 → Option (Int × W0)) : Nat → Int → Int → W0 → Option (Int × W0)
  | 0, _, _, _ => none
  | n + 1, l1, l2, c => b_X9_isBest_4 th κ (f_X9_isBest_4 th κ n) l1 l2 c
theorem f_X9_isBest_4_s {th : Nat} {κ : Int → W0 → Option (Int × W0)} {n : Nat} {l1 : Int} {l2 : Int} {c : W0} : f_X9_isBest_4 th κ (n + 1) l1 l2 c = b_X9_isBest_4 th κ (f_X9_isBest_4 th κ n) l1 l2 c := rfl
noncomputable def f_X9_isBest (th : Nat) (c : W0) : Option (Int × W0) :=
  f_X9_isBest_4 th (fun v1 c2 =>
      gd (0 ≤ v1 ∧ v1 ≤ 1) <|
      some (v1, c2)) LF 1 0 c
noncomputable def b_X9_endless_9 (th : Nat) (κ : Int → W0 → Option (Int × W0)) (rec : Int → Int → W0 → Option (Int × W0)) (l1 : Int) (l2 : Int) (c : W0) : Option (Int × W0) :=
  gd (R32 l2) <|
  bq (l2 < 0) (
    κ l1 c) (
    cl (f_X9_isRising th l2 c) fun v1 c2 =>
    gd (R32 v1) <|
    bq (v1 = 0) (
      rec l1 (l2 + (-1)) c2) (
      cv (f_X9_hasEntry th l2 c2) fun v3 =>
      gd (R32 v3) <|
      bq (v3 = 0) (
        rec l2 (l2 + (-1)) c2) (
        rec l1 (l2 + (-1)) c2)))
noncomputable def f_X9_endless_9 (th : Nat) (κ : Int → W0 → Option (Int × W0)) : Nat → Int → Int → W0 → Option (Int × W0)
  | 0, _, _, _ => none
  | n + 1, l1, l2, c => b_X9_endless_9 th κ (f_X9_endless_9 th κ n) l1 l2 c
theorem f_X9_endless_9_s {th : Nat} {κ : Int → W0 → Option (Int × W0)} {n : Nat} {l1 : Int} {l2 : Int} {c : W0} : f_X9_endless_9 th κ (n + 1) l1 l2 c = b_X9_endless_9 th κ (f_X9_endless_9 th κ n) l1 l2 c := rfl
noncomputable def f_X9_endless (th : Nat) (c : W0) : Option (Int × W0) :=
  cv (f_X9_columns th c) fun v1 =>
  f_X9_endless_9 th (fun v2 c3 =>
      some (v2, c3)) LF (-1) (v1 - 1) c
noncomputable def f_X9_against (th : Nat) (p1 : Int) (p2 : Int) (p3 : Int) (c : W0) : Option Int :=
  cv (f_X9_entry th p1 8 c) fun v1 =>
  gd (0 ≤ ((9 * p1) + p3) ∧ ((9 * p1) + p3) < 36) <|
  gd (0 ≤ (((9 * p1) + 9) - 1) ∧ (((9 * p1) + 9) - 1) < 36) <|
  cv (f_X9_entry th p1 p3 c) fun v2 =>
  cv (f_X9_entry th p2 8 c) fun v3 =>
  gd (0 ≤ ((9 * p2) + p3) ∧ ((9 * p2) + p3) < 36) <|
  gd (0 ≤ (((9 * p2) + 9) - 1) ∧ (((9 * p2) + 9) - 1) < 36) <|
  cv (f_X9_entry th p2 p3 c) fun v4 =>
  cv (f_X9_divisor (v1 * (c (th + 7) ((9 * p1) + p3))) ((c (th + 7) (((9 * p1) + 9) - 1)) * v2)) fun v5 =>
  cv (f_X9_divisor (v3 * (c (th + 7) ((9 * p2) + p3))) ((c (th + 7) (((9 * p2) + 9) - 1)) * v4)) fun v6 =>
  gd (¬ v5 = 0 ∧ R64 (v1 * (c (th + 7) ((9 * p1) + p3))) ∧ R64 v5) <|
  gd (¬ v6 = 0 ∧ R64 ((c (th + 7) (((9 * p2) + 9) - 1)) * v4) ∧ R64 v6) <|
  gd (¬ v6 = 0 ∧ R64 (v3 * (c (th + 7) ((9 * p2) + p3))) ∧ R64 v6) <|
  gd (¬ v5 = 0 ∧ R64 ((c (th + 7) (((9 * p1) + 9) - 1)) * v2) ∧ R64 v5) <|
  some (((Int.tdiv (v1 * (c (th + 7) ((9 * p1) + p3))) v5) * (Int.tdiv ((c (th + 7) (((9 * p2) + 9) - 1)) * v4) v6)) - ((Int.tdiv (v3 * (c (th + 7) ((9 * p2) + p3))) v6) * (Int.tdiv ((c (th + 7) (((9 * p1) + 9) - 1)) * v2) v5)))
noncomputable def b_X9_leastRow_4 (th : Nat) (p1 : Int) (c : W0) (κ : Int → Option Int) (rec : Int → Int → Option Int) (l2 : Int) (l3 : Int) : Option Int :=
  gd (R32 l3 ∧ R32 (c (th + 1) 1)) <|
  bq ((c (th + 1) 1) ≤ l3) (
    κ l2) (
    cv (f_X9_entry th l3 p1 c) fun v1 =>
    gd (R64 v1) <|
    jn (fun (v3 : Int) =>
        gd (R32 v3) <|
        jn (fun (u5 : Unit) =>
            gd (R32 v3) <|
            bq (v3 = 0) (
              rec l2 (l3 + 1)) (
              jn (fun (u7 : Unit) =>
                  rec l3 (l3 + 1)) fun k6 =>
              bq (-1 < 0) (
                k6 ()) (
                bq (-1 = 0) (
                  gd (0 ≤ l3 ∧ l3 < 4) <|
                  gd (0 ≤ l2 ∧ l2 < 4) <|
                  gd (R32 (c (th + 8) l3) ∧ R32 (c (th + 8) l2)) <|
                  bq ((c (th + 8) l2) ≤ (c (th + 8) l3)) (
                    rec l2 (l3 + 1)) (
                    k6 ())) (
                  rec l2 (l3 + 1))))) fun k4 =>
        bq (v3 = 0) (
          k4 ()) (
          gd (R32 l2) <|
          bq (l2 < 0) (
            k4 ()) (
            cv (f_X9_against th l3 l2 p1 c) fun v8 =>
            gd (R32 v3) <|
            bq (v3 = 0) (
              rec l2 (l3 + 1)) (
              gd (R64 v8) <|
              jn (fun (u10 : Unit) =>
                  rec l3 (l3 + 1)) fun k9 =>
              bq (v8 < 0) (
                k9 ()) (
                gd (R64 v8) <|
                bq (v8 = 0) (
                  gd (0 ≤ l3 ∧ l3 < 4) <|
                  gd (0 ≤ l2 ∧ l2 < 4) <|
                  gd (R32 (c (th + 8) l3) ∧ R32 (c (th + 8) l2)) <|
                  bq ((c (th + 8) l2) ≤ (c (th + 8) l3)) (
                    rec l2 (l3 + 1)) (
                    k9 ())) (
                  rec l2 (l3 + 1))))))) fun k2 =>
    bq (v1 ≤ 0) (
      k2 0) (
      k2 1))
noncomputable def f_X9_leastRow_4 (th : Nat) (p1 : Int) (c : W0) (κ : Int → Option Int) : Nat → Int → Int → Option Int
  | 0, _, _ => none
  | n + 1, l2, l3 => b_X9_leastRow_4 th p1 c κ (f_X9_leastRow_4 th p1 c κ n) l2 l3
theorem f_X9_leastRow_4_s {th : Nat} {p1 : Int} {c : W0} {κ : Int → Option Int} {n : Nat} {l2 : Int} {l3 : Int} : f_X9_leastRow_4 th p1 c κ (n + 1) l2 l3 = b_X9_leastRow_4 th p1 c κ (f_X9_leastRow_4 th p1 c κ n) l2 l3 := rfl
noncomputable def f_X9_leastRow (th : Nat) (p1 : Int) (c : W0) : Option Int :=
  f_X9_leastRow_4 th p1 c (fun v1 =>
      some v1) LF (-1) 0
noncomputable def f_X9_weighs (th : Nat) (p1 : Int) (c : W0) : Option (Int × W0) :=
  cl (f_X9_reduces th p1 c) fun _ c1 =>
  gd (R32 (c1 (th + 1) 26)) <|
  bq ((c1 (th + 1) 26) = 2) (
    cv (f_X9_leastRow th p1 c1) fun v3 =>
    cv (f_X9_entry th v3 8 c1) fun v4 =>
    gd (0 ≤ (((9 * v3) + 9) - 1) ∧ (((9 * v3) + 9) - 1) < 36) <|
    cl (f_X9_becomes th ((c1 th 16) * v4) ((c1 th 17) * (c1 (th + 7) (((9 * v3) + 9) - 1))) c1) fun _ c5 =>
    gd (0 ≤ ((9 * v3) + p1) ∧ ((9 * v3) + p1) < 36) <|
    cv (f_X9_entry th v3 p1 c5) fun v7 =>
    cl (f_X9_becomes th ((c5 th 16) * (c5 (th + 7) ((9 * v3) + p1))) ((c5 th 17) * v7) c5) fun _ c8 =>
    some (0, c8)) (
    some (0, c1))
noncomputable def b_X9_isMore_14  (κ : Int → Int → Int → Int → Option Int) (rec : Int → Int → Int → Int → Option Int) (l8 : Int) (l10 : Int) (l12 : Int) (l14 : Int) : Option Int :=
  gd (¬ l10 = 0 ∧ R64 l8 ∧ R64 l10) <|
  gd (¬ l14 = 0 ∧ R64 l12 ∧ R64 l14) <|
  gd (R64 (Int.tdiv l8 l10) ∧ R64 (Int.tdiv l12 l14)) <|
  bq ((Int.tdiv l8 l10) = (Int.tdiv l12 l14)) (
    gd (¬ l10 = 0 ∧ R64 l8 ∧ R64 l10) <|
    gd (R64 (Int.tmod l8 l10)) <|
    bq ((Int.tmod l8 l10) = 0) (
      κ l8 l10 l12 l14) (
      gd (¬ l14 = 0 ∧ R64 l12 ∧ R64 l14) <|
      gd (R64 (Int.tmod l12 l14)) <|
      bq ((Int.tmod l12 l14) = 0) (
        κ l8 l10 l12 l14) (
        gd (¬ l10 = 0 ∧ R64 l8 ∧ R64 l10) <|
        gd (¬ l14 = 0 ∧ R64 l12 ∧ R64 l14) <|
        rec l14 (Int.tmod l12 l14) l10 (Int.tmod l8 l10)))) (
    κ l8 l10 l12 l14)
noncomputable def f_X9_isMore_14  (κ : Int → Int → Int → Int → Option Int) : Nat → Int → Int → Int → Int → Option Int
  | 0, _, _, _, _ => none
  | n + 1, l8, l10, l12, l14 => b_X9_isMore_14  κ (f_X9_isMore_14  κ n) l8 l10 l12 l14
theorem f_X9_isMore_14_s  {κ : Int → Int → Int → Int → Option Int} {n : Nat} {l8 : Int} {l10 : Int} {l12 : Int} {l14 : Int} : f_X9_isMore_14  κ (n + 1) l8 l10 l12 l14 = b_X9_isMore_14  κ (f_X9_isMore_14  κ n) l8 l10 l12 l14 := rfl
noncomputable def f_X9_isMore (p1 : Int) (p2 : Int) (p3 : Int) (p4 : Int) : Option Int :=
  f_X9_isMore_14  (fun v1 v2 v3 v4 =>
      gd (¬ v2 = 0 ∧ R64 v1 ∧ R64 v2) <|
      gd (¬ v4 = 0 ∧ R64 v3 ∧ R64 v4) <|
      gd (R64 (Int.tdiv v1 v2) ∧ R64 (Int.tdiv v3 v4)) <|
      bq ((Int.tdiv v1 v2) = (Int.tdiv v3 v4)) (
        gd (¬ v2 = 0 ∧ R64 v1 ∧ R64 v2) <|
        gd (R64 (Int.tmod v1 v2)) <|
        bq ((Int.tmod v1 v2) = 0) (
          some 0) (
          gd (¬ v4 = 0 ∧ R64 v3 ∧ R64 v4) <|
          gd (R64 (Int.tmod v3 v4)) <|
          bq ((Int.tmod v3 v4) = 0) (
            some 1) (
            some 0))) (
        gd (¬ v2 = 0 ∧ R64 v1 ∧ R64 v2) <|
        gd (¬ v4 = 0 ∧ R64 v3 ∧ R64 v4) <|
        gd (R64 (Int.tdiv v1 v2) ∧ R64 (Int.tdiv v3 v4)) <|
        bq ((Int.tdiv v1 v2) ≤ (Int.tdiv v3 v4)) (
          some 0) (
          some 1))) LF p1 p2 p3 p4
noncomputable def b_X9_bestColumn_10 (th : Nat) (κ : Int → W0 → Option (Int × W0)) (rec : Int → Int → Int → Int → W0 → Option (Int × W0)) (l1 : Int) (l2 : Int) (l4 : Int) (l6 : Int) (c : W0) : Option (Int × W0) :=
  cv (f_X9_columns th c) fun v1 =>
  gd (R32 l6 ∧ R32 v1) <|
  bq (v1 ≤ l6) (
    κ l1 c) (
    cl (f_X9_isRising th l6 c) fun v2 c3 =>
    gd (R32 v2) <|
    bq (v2 = 0) (
      rec l1 l2 l4 (l6 + 1) c3) (
      cl (f_X9_weighs th l6 c3) fun _ c4 =>
      gd (R32 l1) <|
      jn (fun (u7 : Unit) =>
          jn (fun (v9 : Int) =>
              jn (fun (v11 : Int) =>
                  bq (1 = 0) (
                    rec v9 v11 l4 (l6 + 1) c4) (
                    rec v9 v11 (c4 th 17) (l6 + 1) c4)) fun k10 =>
              bq (1 = 0) (
                k10 l2) (
                k10 (c4 th 16))) fun k8 =>
          bq (1 = 0) (
            k8 l1) (
            k8 l6)) fun k6 =>
      bq (l1 < 0) (
        k6 ()) (
        gd (R32 (c4 (th + 1) 26)) <|
        jn (fun (u13 : Unit) =>
            jn (fun (v15 : Int) =>
                jn (fun (v17 : Int) =>
                    bq (0 = 0) (
                      rec v15 v17 l4 (l6 + 1) c4) (
                      rec v15 v17 (c4 th 17) (l6 + 1) c4)) fun k16 =>
                bq (0 = 0) (
                  k16 l2) (
                  k16 (c4 th 16))) fun k14 =>
            bq (0 = 0) (
              k14 l1) (
              k14 l6)) fun k12 =>
        bq ((c4 (th + 1) 26) ≤ 0) (
          k12 ()) (
          cv (f_X9_isMore (c4 th 16) (c4 th 17) l2 l4) fun v18 =>
          gd (R32 v18) <|
          bq (v18 = 0) (
            k12 ()) (
            k6 ())))))
noncomputable def f_X9_bestColumn_10 (th : Nat) (κ : Int → W0 → Option (Int × W0)) : Nat → Int → Int → Int → Int → W0 → Option (Int × W0)
  | 0, _, _, _, _, _ => none
  | n + 1, l1, l2, l4, l6, c => b_X9_bestColumn_10 th κ (f_X9_bestColumn_10 th κ n) l1 l2 l4 l6 c
theorem f_X9_bestColumn_10_s {th : Nat} {κ : Int → W0 → Option (Int × W0)} {n : Nat} {l1 : Int} {l2 : Int} {l4 : Int} {l6 : Int} {c : W0} : f_X9_bestColumn_10 th κ (n + 1) l1 l2 l4 l6 c = b_X9_bestColumn_10 th κ (f_X9_bestColumn_10 th κ n) l1 l2 l4 l6 c := rfl
noncomputable def f_X9_bestColumn (th : Nat) (c : W0) : Option (Int × W0) :=
  f_X9_bestColumn_10 th (fun v1 c2 =>
      some (v1, c2)) LF (-1) 0 1 0 c
noncomputable def f_X9_turns (th : Nat) (p1 : Int) (p2 : Int) (c : W0) : Option (Int × W0) :=
  cv (f_X9_entry th p1 8 c) fun v1 =>
  gd (R64 v1) <|
  jn (fun (v3 : Int) =>
      sto c (th + 1) 33 ((c (th + 1) 33) + v3) fun c4 =>
      gd (0 ≤ (27 + p1) ∧ (27 + p1) < 34) <|
      sto c4 (th + 1) (27 + p1) p2 fun c5 =>
      sto c5 (th + 1) 31 ((c5 (th + 1) 31) + 1) fun c6 =>
      sto c6 (th + 1) 32 ((c6 (th + 1) 32) + 1) fun c7 =>
      cl (f_X9_laysNow th c7) fun _ c8 =>
      some (0, c8)) fun k2 =>
  bq (v1 = 0) (
    k2 1) (
    k2 0)
noncomputable def f_X9_isOver (th : Nat) (c : W0) : Option (Int × W0) :=
  cl (f_X9_isBest th c) fun v1 c2 =>
  gd (R32 v1) <|
  bq (v1 = 0) (
    cl (f_X9_endless th c2) fun v3 c4 =>
    gd (R32 v3) <|
    bq (v3 < 0) (
      some (0, c4)) (
      some (1, c4))) (
    some (1, c2))
noncomputable def b_X9_solves_6 (th : Nat) (κ : Int → W0 → Option (Int × W0)) (rec : Int → W0 → Option (Int × W0)) (l1 : Int) (c : W0) : Option (Int × W0) :=
  gd (R32 l1) <|
  bq (40 ≤ l1) (
    κ l1 c) (
    cl (f_X9_isOver th c) fun v1 c2 =>
    gd (R32 v1) <|
    bq (v1 = 0) (
      cl (f_X9_bestColumn th c2) fun v3 c4 =>
      cv (f_X9_leastRow th v3 c4) fun v5 =>
      cl (f_X9_turns th v5 v3 c4) fun _ c6 =>
      rec (l1 + 1) c6) (
      κ l1 c2))
noncomputable def f_X9_solves_6 (th : Nat) (κ : Int → W0 → Option (Int × W0)) : Nat → Int → W0 → Option (Int × W0)
  | 0, _, _ => none
  | n + 1, l1, c => b_X9_solves_6 th κ (f_X9_solves_6 th κ n) l1 c
theorem f_X9_solves_6_s {th : Nat} {κ : Int → W0 → Option (Int × W0)} {n : Nat} {l1 : Int} {c : W0} : f_X9_solves_6 th κ (n + 1) l1 c = b_X9_solves_6 th κ (f_X9_solves_6 th κ n) l1 c := rfl
noncomputable def f_X9_solves (th : Nat) (c : W0) : Option (Int × W0) :=
  cl (f_X9_laysNow th c) fun _ c1 =>
  f_X9_solves_6 th (fun v3 c4 =>
      some (v3, c4)) LF 0 c1
noncomputable def b_X9_setVariables_60 (th : Nat) (l2 : Int) (l3 : Int) (κ : W0 → Option (Int × W0)) (rec : Int → W0 → Option (Int × W0)) (l4 : Int) (c : W0) : Option (Int × W0) :=
  gd (R32 l4) <|
  bq (4 ≤ l4) (
    κ c) (
    gd (0 ≤ ((6 + (4 * l4)) + l3) ∧ ((6 + (4 * l4)) + l3) < 34) <|
    sto c (th + 1) ((6 + (4 * l4)) + l3) 0 fun c1 =>
    rec (l4 + 1) c1)
noncomputable def f_X9_setVariables_60 (th : Nat) (l2 : Int) (l3 : Int) (κ : W0 → Option (Int × W0)) : Nat → Int → W0 → Option (Int × W0)
  | 0, _, _ => none
  | n + 1, l4, c => b_X9_setVariables_60 th l2 l3 κ (f_X9_setVariables_60 th l2 l3 κ n) l4 c
theorem f_X9_setVariables_60_s {th : Nat} {l2 : Int} {l3 : Int} {κ : W0 → Option (Int × W0)} {n : Nat} {l4 : Int} {c : W0} : f_X9_setVariables_60 th l2 l3 κ (n + 1) l4 c = b_X9_setVariables_60 th l2 l3 κ (f_X9_setVariables_60 th l2 l3 κ n) l4 c := rfl
noncomputable def b_X9_setVariables_43 (th : Nat) (l2 : Int) (κ : W0 → Option (Int × W0)) (rec : Int → W0 → Option (Int × W0)) (l3 : Int) (c : W0) : Option (Int × W0) :=
  gd (R32 l3) <|
  bq (4 ≤ l3) (
    κ c) (
    gd (0 ≤ (2 + l3) ∧ (2 + l3) < 34) <|
    sto c (th + 1) (2 + l3) 0 fun c1 =>
    f_X9_setVariables_60 th l2 l3 (fun c2 =>
        rec (l3 + 1) c2) LF 0 c1)
noncomputable def f_X9_setVariables_43 (th : Nat) (l2 : Int) (κ : W0 → Option (Int × W0)) : Nat → Int → W0 → Option (Int × W0)
  | 0, _, _ => none
  | n + 1, l3, c => b_X9_setVariables_43 th l2 κ (f_X9_setVariables_43 th l2 κ n) l3 c
theorem f_X9_setVariables_43_s {th : Nat} {l2 : Int} {κ : W0 → Option (Int × W0)} {n : Nat} {l3 : Int} {c : W0} : f_X9_setVariables_43 th l2 κ (n + 1) l3 c = b_X9_setVariables_43 th l2 κ (f_X9_setVariables_43 th l2 κ n) l3 c := rfl
noncomputable def f_X9_setVariables (th : Nat) (p1 : Int) (c : W0) : Option (Int × W0) :=
  cv (f_X9_in p1 1 4) fun v1 =>
  gd (R32 v1) <|
  jn (fun (v3 : Int) =>
      cl (f_X9_holds th v3 c) fun v4 c5 =>
      gd (R32 v4) <|
      bq (v4 = 0) (
        some (0, c5)) (
        cl (f_X9_save th c5) fun _ c6 =>
        sto c6 (th + 1) 0 p1 fun c8 =>
        f_X9_setVariables_43 th (c6 (th + 1) 0) (fun c9 =>
            cl (f_X9_begins th c9) fun _ c10 =>
            some ((c6 (th + 1) 0), c10)) LF p1 c8)) fun k2 =>
  bq (v1 = 0) (
    k2 1) (
    k2 0)
noncomputable def f_X9_changes (th : Nat) (p1 : Int) (p2 : Int) (c : W0) : Option (Int × W0) :=
  cl (f_X9_save th c) fun _ c1 =>
  gd (0 ≤ p1 ∧ p1 < 34) <|
  gd (0 ≤ p1 ∧ p1 < 34) <|
  sto c1 (th + 1) p1 p2 fun c3 =>
  cl (f_X9_begins th c3) fun _ c4 =>
  some ((c1 (th + 1) p1), c4)
noncomputable def f_X9_setProfit (th : Nat) (p1 : Int) (p2 : Int) (c : W0) : Option (Int × W0) :=
  cv (f_X9_isVariable th p1 c) fun v1 =>
  gd (R32 v1) <|
  jn (fun (v3 : Int) =>
      cl (f_X9_holds th v3 c) fun v4 c5 =>
      gd (R32 v4) <|
      bq (v4 = 0) (
        some (0, c5)) (
        cl (f_X9_changes th (2 + p1) p2 c5) fun v6 c7 =>
        some (v6, c7))) fun k2 =>
  bq (v1 = 0) (
    k2 1) (
    cv (f_X9_in p2 (-9) 9) fun v8 =>
    gd (R32 v8) <|
    bq (v8 = 0) (
      k2 2) (
      k2 0))
noncomputable def b_X9_addConstraint_61 (th : Nat) (p1 : Int) (l2 : Int) (κ : W0 → Option (Int × W0)) (rec : Int → W0 → Option (Int × W0)) (l3 : Int) (c : W0) : Option (Int × W0) :=
  gd (R32 l3) <|
  bq (4 ≤ l3) (
    κ c) (
    gd (0 ≤ ((6 + (4 * l2)) + l3) ∧ ((6 + (4 * l2)) + l3) < 34) <|
    sto c (th + 1) ((6 + (4 * l2)) + l3) 0 fun c1 =>
    rec (l3 + 1) c1)
noncomputable def f_X9_addConstraint_61 (th : Nat) (p1 : Int) (l2 : Int) (κ : W0 → Option (Int × W0)) : Nat → Int → W0 → Option (Int × W0)
  | 0, _, _ => none
  | n + 1, l3, c => b_X9_addConstraint_61 th p1 l2 κ (f_X9_addConstraint_61 th p1 l2 κ n) l3 c
theorem f_X9_addConstraint_61_s {th : Nat} {p1 : Int} {l2 : Int} {κ : W0 → Option (Int × W0)} {n : Nat} {l3 : Int} {c : W0} : f_X9_addConstraint_61 th p1 l2 κ (n + 1) l3 c = b_X9_addConstraint_61 th p1 l2 κ (f_X9_addConstraint_61 th p1 l2 κ n) l3 c := rfl
noncomputable def f_X9_addConstraint (th : Nat) (p1 : Int) (c : W0) : Option (Int × W0) :=
  cv (f_X9_in p1 0 99) fun v1 =>
  gd (R32 v1) <|
  jn (fun (v3 : Int) =>
      cl (f_X9_holds th v3 c) fun v4 c5 =>
      gd (R32 v4) <|
      bq (v4 = 0) (
        some (0, c5)) (
        cl (f_X9_save th c5) fun _ c6 =>
        sto c6 (th + 1) 1 ((c6 (th + 1) 1) + 1) fun c8 =>
        f_X9_addConstraint_61 th p1 (c6 (th + 1) 1) (fun c9 =>
            gd (0 ≤ (22 + (c6 (th + 1) 1)) ∧ (22 + (c6 (th + 1) 1)) < 34) <|
            sto c9 (th + 1) (22 + (c6 (th + 1) 1)) p1 fun c10 =>
            cl (f_X9_begins th c10) fun _ c11 =>
            some ((c6 (th + 1) 1), c11)) LF 0 c8)) fun k2 =>
  bq (v1 = 0) (
    k2 1) (
    gd (R32 (c (th + 1) 1)) <|
    bq ((c (th + 1) 1) = 4) (
      k2 2) (
      k2 0))
noncomputable def f_X9_setCoefficient (th : Nat) (p1 : Int) (p2 : Int) (p3 : Int) (c : W0) : Option (Int × W0) :=
  cv (f_X9_isConstraint th p1 c) fun v1 =>
  gd (R32 v1) <|
  jn (fun (u3 : Unit) =>
      cl (f_X9_holds th 1 c) fun v4 c5 =>
      gd (R32 v4) <|
      bq (v4 = 0) (
        some (0, c5)) (
        cl (f_X9_changes th ((6 + (4 * p1)) + p2) p3 c5) fun v6 c7 =>
        some (v6, c7))) fun k2 =>
  bq (v1 = 0) (
    k2 ()) (
    cv (f_X9_isVariable th p2 c) fun v8 =>
    gd (R32 v8) <|
    bq (v8 = 0) (
      k2 ()) (
      cv (f_X9_in p3 (-9) 9) fun v9 =>
      gd (R32 v9) <|
      jn (fun (v11 : Int) =>
          cl (f_X9_holds th v11 c) fun v12 c13 =>
          gd (R32 v12) <|
          bq (v12 = 0) (
            some (0, c13)) (
            cl (f_X9_changes th ((6 + (4 * p1)) + p2) p3 c13) fun v14 c15 =>
            some (v14, c15))) fun k10 =>
      bq (v9 = 0) (
        k10 2) (
        k10 0)))
noncomputable def f_X9_setBound (th : Nat) (p1 : Int) (p2 : Int) (c : W0) : Option (Int × W0) :=
  cv (f_X9_isConstraint th p1 c) fun v1 =>
  gd (R32 v1) <|
  jn (fun (v3 : Int) =>
      cl (f_X9_holds th v3 c) fun v4 c5 =>
      gd (R32 v4) <|
      bq (v4 = 0) (
        some (0, c5)) (
        cl (f_X9_changes th (22 + p1) p2 c5) fun v6 c7 =>
        some (v6, c7))) fun k2 =>
  bq (v1 = 0) (
    k2 1) (
    cv (f_X9_in p2 0 99) fun v8 =>
    gd (R32 v8) <|
    bq (v8 = 0) (
      k2 2) (
      k2 0))
noncomputable def b_X9_dropConstraint_70 (th : Nat) (l2 : Int) (κ : W0 → Option (Int × W0)) (rec : Int → W0 → Option (Int × W0)) (l3 : Int) (c : W0) : Option (Int × W0) :=
  gd (R32 l3) <|
  bq (4 ≤ l3) (
    κ c) (
    gd (0 ≤ (((6 + (4 * l2)) + 4) + l3) ∧ (((6 + (4 * l2)) + 4) + l3) < 34) <|
    gd (0 ≤ ((6 + (4 * l2)) + l3) ∧ ((6 + (4 * l2)) + l3) < 34) <|
    sto c (th + 1) ((6 + (4 * l2)) + l3) (c (th + 1) (((6 + (4 * l2)) + 4) + l3)) fun c1 =>
    rec (l3 + 1) c1)
noncomputable def f_X9_dropConstraint_70 (th : Nat) (l2 : Int) (κ : W0 → Option (Int × W0)) : Nat → Int → W0 → Option (Int × W0)
  | 0, _, _ => none
  | n + 1, l3, c => b_X9_dropConstraint_70 th l2 κ (f_X9_dropConstraint_70 th l2 κ n) l3 c
theorem f_X9_dropConstraint_70_s {th : Nat} {l2 : Int} {κ : W0 → Option (Int × W0)} {n : Nat} {l3 : Int} {c : W0} : f_X9_dropConstraint_70 th l2 κ (n + 1) l3 c = b_X9_dropConstraint_70 th l2 κ (f_X9_dropConstraint_70 th l2 κ n) l3 c := rfl
noncomputable def b_X9_dropConstraint_38 (th : Nat) (κ : W0 → Option (Int × W0)) (rec : Int → W0 → Option (Int × W0)) (l2 : Int) (c : W0) : Option (Int × W0) :=
  gd (R32 l2 ∧ R32 (c (th + 1) 1)) <|
  bq ((c (th + 1) 1) ≤ l2) (
    κ c) (
    gd (0 ≤ ((22 + l2) + 1) ∧ ((22 + l2) + 1) < 34) <|
    gd (0 ≤ (22 + l2) ∧ (22 + l2) < 34) <|
    sto c (th + 1) (22 + l2) (c (th + 1) ((22 + l2) + 1)) fun c1 =>
    f_X9_dropConstraint_70 th l2 (fun c2 =>
        rec (l2 + 1) c2) LF 0 c1)
noncomputable def f_X9_dropConstraint_38 (th : Nat) (κ : W0 → Option (Int × W0)) : Nat → Int → W0 → Option (Int × W0)
  | 0, _, _ => none
  | n + 1, l2, c => b_X9_dropConstraint_38 th κ (f_X9_dropConstraint_38 th κ n) l2 c
theorem f_X9_dropConstraint_38_s {th : Nat} {κ : W0 → Option (Int × W0)} {n : Nat} {l2 : Int} {c : W0} : f_X9_dropConstraint_38 th κ (n + 1) l2 c = b_X9_dropConstraint_38 th κ (f_X9_dropConstraint_38 th κ n) l2 c := rfl
noncomputable def f_X9_dropConstraint (th : Nat) (p1 : Int) (c : W0) : Option (Int × W0) :=
  cv (f_X9_isConstraint th p1 c) fun v1 =>
  gd (R32 v1) <|
  jn (fun (v3 : Int) =>
      cl (f_X9_holds th v3 c) fun v4 c5 =>
      gd (R32 v4) <|
      bq (v4 = 0) (
        some (0, c5)) (
        cl (f_X9_save th c5) fun _ c6 =>
        sto c6 (th + 1) 1 ((c6 (th + 1) 1) - 1) fun c8 =>
        f_X9_dropConstraint_38 th (fun c9 =>
            cl (f_X9_begins th c9) fun _ c10 =>
            some ((c10 (th + 1) 1), c10)) LF p1 c8)) fun k2 =>
  bq (v1 = 0) (
    k2 1) (
    k2 0)
noncomputable def f_X9_begin (th : Nat) (c : W0) : Option (Int × W0) :=
  sto c th 0 0 fun c1 =>
  cl (f_X9_save th c1) fun _ c2 =>
  cl (f_X9_begins th c2) fun _ c4 =>
  some ((c2 (th + 1) 31), c4)
noncomputable def f_X9_isPlace (th : Nat) (p1 : Int) (p2 : Int) (c : W0) : Option Int :=
  cv (f_X9_isConstraint th p1 c) fun v1 =>
  gd (R32 v1) <|
  bq (v1 = 0) (
    some 0) (
    cv (f_X9_isColumn th p2 c) fun v2 =>
    gd (R32 v2) <|
    bq (v2 = 0) (
      some 0) (
      some 1))
noncomputable def b_X9_isIn_4 (th : Nat) (p1 : Int) (c : W0) (κ : Int → Option Int) (rec : Int → Int → Option Int) (l2 : Int) (l3 : Int) : Option Int :=
  gd (R32 l3 ∧ R32 (c (th + 1) 1)) <|
  bq ((c (th + 1) 1) ≤ l3) (
    κ l2) (
    gd (R32 l2) <|
    jn (fun (u2 : Unit) =>
        rec 1 (l3 + 1)) fun k1 =>
    bq (l2 = 0) (
      gd (0 ≤ (27 + l3) ∧ (27 + l3) < 34) <|
      gd (R32 (c (th + 1) (27 + l3)) ∧ R32 p1) <|
      bq ((c (th + 1) (27 + l3)) = p1) (
        k1 ()) (
        rec 0 (l3 + 1))) (
      k1 ()))
noncomputable def f_X9_isIn_4 (th : Nat) (p1 : Int) (c : W0) (κ : Int → Option Int) : Nat → Int → Int → Option Int
  | 0, _, _ => none
  | n + 1, l2, l3 => b_X9_isIn_4 th p1 c κ (f_X9_isIn_4 th p1 c κ n) l2 l3
theorem f_X9_isIn_4_s {th : Nat} {p1 : Int} {c : W0} {κ : Int → Option Int} {n : Nat} {l2 : Int} {l3 : Int} : f_X9_isIn_4 th p1 c κ (n + 1) l2 l3 = b_X9_isIn_4 th p1 c κ (f_X9_isIn_4 th p1 c κ n) l2 l3 := rfl
noncomputable def f_X9_isIn (th : Nat) (p1 : Int) (c : W0) : Option Int :=
  f_X9_isIn_4 th p1 c (fun v1 =>
      gd (0 ≤ v1 ∧ v1 ≤ 1) <|
      some v1) LF 0 0
noncomputable def b_X9_hindrance_52 (th : Nat) (p1 : Int) (p2 : Int) (c : W0) (κ : Int → Option (Int × W0)) (rec : Int → Int → Option (Int × W0)) (l3 : Int) (l4 : Int) : Option (Int × W0) :=
  gd (R32 l4 ∧ R32 (c (th + 1) 1)) <|
  bq ((c (th + 1) 1) ≤ l4) (
    κ l3) (
    gd (R32 l3) <|
    jn (fun (u2 : Unit) =>
        rec 1 (l4 + 1)) fun k1 =>
    bq (l3 = 0) (
      cv (f_X9_entry th l4 p2 c) fun v3 =>
      gd (R64 v3) <|
      bq (v3 ≤ 0) (
        rec 0 (l4 + 1)) (
        cv (f_X9_against th l4 p1 p2 c) fun v4 =>
        gd (R64 v4) <|
        bq (0 ≤ v4) (
          rec 0 (l4 + 1)) (
          k1 ()))) (
      k1 ()))
noncomputable def f_X9_hindrance_52 (th : Nat) (p1 : Int) (p2 : Int) (c : W0) (κ : Int → Option (Int × W0)) : Nat → Int → Int → Option (Int × W0)
  | 0, _, _ => none
  | n + 1, l3, l4 => b_X9_hindrance_52 th p1 p2 c κ (f_X9_hindrance_52 th p1 p2 c κ n) l3 l4
theorem f_X9_hindrance_52_s {th : Nat} {p1 : Int} {p2 : Int} {c : W0} {κ : Int → Option (Int × W0)} {n : Nat} {l3 : Int} {l4 : Int} : f_X9_hindrance_52 th p1 p2 c κ (n + 1) l3 l4 = b_X9_hindrance_52 th p1 p2 c κ (f_X9_hindrance_52 th p1 p2 c κ n) l3 l4 := rfl
noncomputable def f_X9_hindrance (th : Nat) (p1 : Int) (p2 : Int) (c : W0) : Option (Int × W0) :=
  cl (f_X9_laysNow th c) fun _ c1 =>
  cv (f_X9_isIn th p2 c1) fun v3 =>
  gd (R32 v3) <|
  jn (fun (c5 : W0) =>
      cv (f_X9_isIn th p2 c5) fun v6 =>
      gd (R32 v6) <|
      bq (v6 = 0) (
        some (2, c5)) (
        some (1, c5))) fun k4 =>
  bq (v3 = 0) (
    cl (f_X9_isRising th p2 c1) fun v7 c8 =>
    gd (R32 v7) <|
    bq (v7 = 0) (
      k4 c8) (
      cv (f_X9_entry th p1 p2 c8) fun v9 =>
      gd (R64 v9) <|
      bq (0 < v9) (
        f_X9_hindrance_52 th p1 p2 c8 (fun v10 =>
            gd (R32 v10) <|
            bq (v10 = 0) (
              some (0, c8)) (
              some (4, c8))) LF 0 0) (
        some (3, c8)))) (
    k4 c1)
noncomputable def f_X9_pivot (th : Nat) (p1 : Int) (p2 : Int) (c : W0) : Option (Int × W0) :=
  cv (f_X9_isPlace th p1 p2 c) fun v1 =>
  gd (R32 v1) <|
  jn (fun (v3 : Int) (c4 : W0) =>
      cl (f_X9_holds th v3 c4) fun v5 c6 =>
      gd (R32 v5) <|
      bq (v5 = 0) (
        some (0, c6)) (
        cl (f_X9_save th c6) fun _ c7 =>
        gd (0 ≤ (27 + p1) ∧ (27 + p1) < 34) <|
        cl (f_X9_turns th p1 p2 c7) fun _ c9 =>
        some ((c7 (th + 1) (27 + p1)), c9))) fun k2 =>
  bq (v1 = 0) (
    k2 1 c) (
    cl (f_X9_hindrance th p1 p2 c) fun v11 c12 =>
    gd (R32 v11) <|
    bq (v11 = 0) (
      k2 0 c12) (
      k2 2 c12))
noncomputable def f_X9_isAtEnd (th : Nat) (c : W0) : Option (Int × W0) :=
  cl (f_X9_laysNow th c) fun _ c1 =>
  cl (f_X9_isOver th c1) fun v3 c4 =>
  gd (0 ≤ v3 ∧ v3 ≤ 1) <|
  some (v3, c4)
noncomputable def f_X9_step (th : Nat) (c : W0) : Option (Int × W0) :=
  cl (f_X9_isAtEnd th c) fun v1 c2 =>
  gd (R32 v1) <|
  jn (fun (v4 : Int) =>
      cl (f_X9_holds th v4 c2) fun v5 c6 =>
      gd (R32 v5) <|
      bq (v5 = 0) (
        some (0, c6)) (
        cl (f_X9_save th c6) fun _ c7 =>
        cl (f_X9_bestColumn th c7) fun v9 c10 =>
        cv (f_X9_leastRow th v9 c10) fun v11 =>
        cl (f_X9_turns th v11 v9 c10) fun _ c12 =>
        some (v9, c12))) fun k3 =>
  bq (v1 = 0) (
    k3 0) (
    k3 1)
noncomputable def f_X9_solve (th : Nat) (c : W0) : Option (Int × W0) :=
  sto c th 0 0 fun c1 =>
  cl (f_X9_save th c1) fun _ c2 =>
  cl (f_X9_solves th c2) fun v4 c5 =>
  some (v4, c5)
noncomputable def f_X9_setRule (th : Nat) (p1 : Int) (c : W0) : Option (Int × W0) :=
  cv (f_X9_in p1 0 2) fun v1 =>
  gd (R32 v1) <|
  jn (fun (v3 : Int) =>
      cl (f_X9_holds th v3 c) fun v4 c5 =>
      gd (R32 v4) <|
      bq (v4 = 0) (
        some (0, c5)) (
        cl (f_X9_save th c5) fun _ c6 =>
        sto c6 (th + 1) 26 p1 fun c8 =>
        some ((c6 (th + 1) 26), c8))) fun k2 =>
  bq (v1 = 0) (
    k2 1) (
    k2 0)
noncomputable def f_X9_append (th : Nat) (p1 : Int) (c : W0) : Option (Int × W0) :=
  cv (f_X9_in p1 33 126) fun v1 =>
  gd (R32 v1) <|
  jn (fun (v3 : Int) =>
      cl (f_X9_holds th v3 c) fun v4 c5 =>
      gd (R32 v4) <|
      bq (v4 = 0) (
        some (0, c5)) (
        gd (0 ≤ (c5 th 8) ∧ (c5 th 8) < 60) <|
        sto c5 (th + 5) (c5 th 8) p1 fun c6 =>
        sto c6 th 8 ((c6 th 8) + 1) fun c7 =>
        some ((c7 th 8), c7))) fun k2 =>
  bq (v1 = 0) (
    k2 1) (
    gd (R32 (c th 8)) <|
    bq ((c th 8) = 60) (
      k2 2) (
      k2 0))
noncomputable def f_X9_clearBuffer (th : Nat) (c : W0) : Option (Int × W0) :=
  sto c th 0 0 fun c1 =>
  sto c1 th 8 0 fun c2 =>
  some ((c1 th 8), c2)
noncomputable def f_X9_isNext (th : Nat) (p1 : Int) (p2 : Int) (c : W0) : Option Int :=
  gd (R32 (c th 19)) <|
  bq ((c th 19) = 0) (
    gd (R32 (c th 18) ∧ R32 (c th 8)) <|
    bq ((c th 8) ≤ (c th 18)) (
      some 0) (
      gd (0 ≤ (c th 18) ∧ (c th 18) < 60) <|
      cv (f_X9_in (c (th + 5) (c th 18)) p1 p2) fun v1 =>
      gd (R32 v1) <|
      bq (v1 = 0) (
        some 0) (
        some 1))) (
    some 0)
noncomputable def f_X9_takes (th : Nat) (p1 : Int) (p2 : Int) (c : W0) : Option (Int × W0) :=
  cv (f_X9_isNext th p1 p2 c) fun v1 =>
  gd (R32 v1) <|
  jn (fun (v3 : Int) =>
      gd (R32 v1) <|
      jn (fun (v5 : Int) =>
          sto c th 18 ((c th 18) + v5) fun c6 =>
          gd (R32 (c6 th 19)) <|
          jn (fun (u8 : Unit) =>
              sto c6 th 19 1 fun c9 =>
              some ((v3 - 48), c9)) fun k7 =>
          bq ((c6 th 19) = 0) (
            gd (R32 v1) <|
            bq (v1 = 0) (
              k7 ()) (
              sto c6 th 19 0 fun c10 =>
              some ((v3 - 48), c10))) (
            k7 ())) fun k4 =>
      bq (v1 = 0) (
        k4 0) (
        k4 1)) fun k2 =>
  bq (v1 = 0) (
    k2 48) (
    gd (0 ≤ (c th 18) ∧ (c th 18) < 60) <|
    k2 (c (th + 5) (c th 18)))
noncomputable def f_X9_factor (th : Nat) (c : W0) : Option (Int × W0) :=
  cv (f_X9_isNext th 45 45 c) fun v1 =>
  gd (R32 v1) <|
  bq (v1 = 0) (
    cl (f_X9_takes th 48 57 c) fun v2 c3 =>
    some (v2, c3)) (
    sto c th 18 ((c th 18) + 1) fun c4 =>
    cl (f_X9_takes th 49 57 c4) fun v5 c6 =>
    some ((-v5), c6))
noncomputable def b_X9_readFactors_2 (th : Nat) (p1 : Int) (κ : W0 → Option (Int × W0)) (rec : Int → W0 → Option (Int × W0)) (l2 : Int) (c : W0) : Option (Int × W0) :=
  gd (R32 l2 ∧ R32 (c (th + 13) 0)) <|
  bq ((c (th + 13) 0) ≤ l2) (
    κ c) (
    gd (R32 l2) <|
    jn (fun (v2 : Int) (c3 : W0) =>
        cl (f_X9_factor th c3) fun v4 c5 =>
        gd (0 ≤ (p1 + l2) ∧ (p1 + l2) < 26) <|
        sto c5 (th + 13) (p1 + l2) v4 fun c6 =>
        rec (l2 + 1) c6) fun k1 =>
    bq (l2 ≤ 0) (
      k1 0 c) (
      cl (f_X9_takes th 44 44 c) fun v7 c8 =>
      k1 v7 c8))
noncomputable def f_X9_readFactors_2 (th : Nat) (p1 : Int) (κ : W0 → Option (Int × W0)) : Nat → Int → W0 → Option (Int × W0)
  | 0, _, _ => none
  | n + 1, l2, c => b_X9_readFactors_2 th p1 κ (f_X9_readFactors_2 th p1 κ n) l2 c
theorem f_X9_readFactors_2_s {th : Nat} {p1 : Int} {κ : W0 → Option (Int × W0)} {n : Nat} {l2 : Int} {c : W0} : f_X9_readFactors_2 th p1 κ (n + 1) l2 c = b_X9_readFactors_2 th p1 κ (f_X9_readFactors_2 th p1 κ n) l2 c := rfl
noncomputable def f_X9_readFactors (th : Nat) (p1 : Int) (c : W0) : Option (Int × W0) :=
  f_X9_readFactors_2 th p1 (fun c1 =>
      some (0, c1)) LF 0 c
noncomputable def f_X9_bound (th : Nat) (c : W0) : Option (Int × W0) :=
  cl (f_X9_takes th 48 57 c) fun v1 c2 =>
  gd (R32 v1) <|
  bq (v1 ≤ 0) (
    some (v1, c2)) (
    cv (f_X9_isNext th 48 57 c2) fun v3 =>
    gd (R32 v3) <|
    bq (v3 = 0) (
      some (v1, c2)) (
      cl (f_X9_takes th 48 57 c2) fun v4 c5 =>
      some (((10 * v1) + v4), c5)))
noncomputable def b_X9_readProblem_2 (th : Nat) (κ : W0 → Option (Int × W0)) (rec : Int → W0 → Option (Int × W0)) (l1 : Int) (c : W0) : Option (Int × W0) :=
  gd (R32 l1) <|
  bq (26 ≤ l1) (
    κ c) (
    gd (0 ≤ l1 ∧ l1 < 26) <|
    sto c (th + 13) l1 0 fun c1 =>
    rec (l1 + 1) c1)
noncomputable def f_X9_readProblem_2 (th : Nat) (κ : W0 → Option (Int × W0)) : Nat → Int → W0 → Option (Int × W0)
  | 0, _, _ => none
  | n + 1, l1, c => b_X9_readProblem_2 th κ (f_X9_readProblem_2 th κ n) l1 c
theorem f_X9_readProblem_2_s {th : Nat} {κ : W0 → Option (Int × W0)} {n : Nat} {l1 : Int} {c : W0} : f_X9_readProblem_2 th κ (n + 1) l1 c = b_X9_readProblem_2 th κ (f_X9_readProblem_2 th κ n) l1 c := rfl
noncomputable def b_X9_readProblem_77 (th : Nat) (κ : W0 → Option (Int × W0)) (rec : W0 → Option (Int × W0)) (c : W0) : Option (Int × W0) :=
  gd (R32 (c th 19)) <|
  bq ((c th 19) = 0) (
    gd (R32 (c th 18) ∧ R32 (c th 8)) <|
    bq ((c th 8) ≤ (c th 18)) (
      κ c) (
      gd (R32 (c (th + 13) 1)) <|
      bq (4 ≤ (c (th + 13) 1)) (
        κ c) (
        cl (f_X9_takes th 59 59 c) fun v1 c2 =>
        cl (f_X9_takes th 99 99 c2) fun v3 c4 =>
        cl (f_X9_readFactors th (6 + (4 * (c4 (th + 13) 1))) c4) fun _ c5 =>
        cl (f_X9_takes th 60 60 c5) fun v7 c8 =>
        cl (f_X9_bound th c8) fun v9 c10 =>
        gd (0 ≤ (22 + (c8 (th + 13) 1)) ∧ (22 + (c8 (th + 13) 1)) < 26) <|
        sto c10 (th + 13) (22 + (c8 (th + 13) 1)) v9 fun c11 =>
        sto c11 (th + 13) 1 ((c11 (th + 13) 1) + 1) fun c12 =>
        rec c12))) (
    κ c)
noncomputable def f_X9_readProblem_77 (th : Nat) (κ : W0 → Option (Int × W0)) : Nat → W0 → Option (Int × W0)
  | 0, _ => none
  | n + 1, c => b_X9_readProblem_77 th κ (f_X9_readProblem_77 th κ n) c
theorem f_X9_readProblem_77_s {th : Nat} {κ : W0 → Option (Int × W0)} {n : Nat} {c : W0} : f_X9_readProblem_77 th κ (n + 1) c = b_X9_readProblem_77 th κ (f_X9_readProblem_77 th κ n) c := rfl
noncomputable def f_X9_readProblem (th : Nat) (c : W0) : Option (Int × W0) :=
  f_X9_readProblem_2 th (fun c1 =>
      sto c1 th 18 0 fun c2 =>
      sto c2 th 19 0 fun c3 =>
      cl (f_X9_takes th 118 118 c3) fun v4 c5 =>
      cl (f_X9_takes th 49 52 c5) fun v6 c7 =>
      sto c7 (th + 13) 0 v6 fun c8 =>
      cl (f_X9_takes th 59 59 c8) fun v9 c10 =>
      cl (f_X9_takes th 109 109 c10) fun v11 c12 =>
      cl (f_X9_readFactors th 2 c12) fun _ c13 =>
      f_X9_readProblem_77 th (fun c15 =>
          gd (R32 (c15 th 19)) <|
          bq ((c15 th 19) = 0) (
            gd (R32 (c15 th 18) ∧ R32 (c15 th 8)) <|
            bq ((c15 th 8) ≤ (c15 th 18)) (
              sto c15 th 19 0 fun c17 =>
              some (0, c17)) (
              sto c15 th 19 1 fun c18 =>
              some (0, c18))) (
            sto c15 th 19 1 fun c16 =>
            some (0, c16))) LF c13) LF 0 c
noncomputable def f_X9_firstError (th : Nat) (c : W0) : Option (Int × W0) :=
  sto c th 0 0 fun c1 =>
  cl (f_X9_readProblem th c1) fun _ c2 =>
  some ((c2 th 18), c2)
noncomputable def b_X9_load_31 (th : Nat) (κ : W0 → Option (Int × W0)) (rec : Int → W0 → Option (Int × W0)) (l1 : Int) (c : W0) : Option (Int × W0) :=
  gd (R32 l1) <|
  bq (26 ≤ l1) (
    κ c) (
    gd (0 ≤ l1 ∧ l1 < 26) <|
    gd (0 ≤ l1 ∧ l1 < 34) <|
    sto c (th + 1) l1 (c (th + 13) l1) fun c1 =>
    rec (l1 + 1) c1)
noncomputable def f_X9_load_31 (th : Nat) (κ : W0 → Option (Int × W0)) : Nat → Int → W0 → Option (Int × W0)
  | 0, _, _ => none
  | n + 1, l1, c => b_X9_load_31 th κ (f_X9_load_31 th κ n) l1 c
theorem f_X9_load_31_s {th : Nat} {κ : W0 → Option (Int × W0)} {n : Nat} {l1 : Int} {c : W0} : f_X9_load_31 th κ (n + 1) l1 c = b_X9_load_31 th κ (f_X9_load_31 th κ n) l1 c := rfl
noncomputable def f_X9_load (th : Nat) (c : W0) : Option (Int × W0) :=
  cl (f_X9_readProblem th c) fun _ c1 =>
  gd (R32 (c1 th 19)) <|
  jn (fun (v4 : Int) =>
      cl (f_X9_holds th v4 c1) fun v5 c6 =>
      gd (R32 v5) <|
      bq (v5 = 0) (
        some (0, c6)) (
        cl (f_X9_save th c6) fun _ c7 =>
        f_X9_load_31 th (fun c9 =>
            cl (f_X9_begins th c9) fun _ c10 =>
            sto c10 th 8 0 fun c12 =>
            some ((c12 (th + 1) 1), c12)) LF 0 c7)) fun k3 =>
  bq ((c1 th 19) = 0) (
    k3 0) (
    k3 1)
noncomputable def f_X9_writes (th : Nat) (p1 : Int) (c : W0) : Option (Int × W0) :=
  gd (0 ≤ (c th 22) ∧ (c th 22) < 80) <|
  sto c (th + 14) (c th 22) p1 fun c1 =>
  sto c1 th 22 ((c1 th 22) + 1) fun c2 =>
  some (0, c2)
noncomputable def b_X9_writesFactors_2 (th : Nat) (p1 : Int) (κ : W0 → Option (Int × W0)) (rec : Int → W0 → Option (Int × W0)) (l2 : Int) (c : W0) : Option (Int × W0) :=
  gd (R32 l2 ∧ R32 (c (th + 1) 0)) <|
  bq ((c (th + 1) 0) ≤ l2) (
    κ c) (
    gd (R32 l2) <|
    jn (fun (c2 : W0) =>
        gd (0 ≤ (p1 + l2) ∧ (p1 + l2) < 34) <|
        gd (R32 (c2 (th + 1) (p1 + l2))) <|
        jn (fun (c4 : W0) =>
            gd (R32 (c2 (th + 1) (p1 + l2))) <|
            bq (0 ≤ (c2 (th + 1) (p1 + l2))) (
              cl (f_X9_writes th (48 + (c2 (th + 1) (p1 + l2))) c4) fun _ c5 =>
              rec (l2 + 1) c5) (
              cl (f_X9_writes th (48 + (-(c2 (th + 1) (p1 + l2)))) c4) fun _ c7 =>
              rec (l2 + 1) c7)) fun k3 =>
        bq (0 ≤ (c2 (th + 1) (p1 + l2))) (
          k3 c2) (
          cl (f_X9_writes th 45 c2) fun _ c9 =>
          k3 c9)) fun k1 =>
    bq (l2 ≤ 0) (
      k1 c) (
      cl (f_X9_writes th 44 c) fun _ c11 =>
      k1 c11))
noncomputable def f_X9_writesFactors_2 (th : Nat) (p1 : Int) (κ : W0 → Option (Int × W0)) : Nat → Int → W0 → Option (Int × W0)
  | 0, _, _ => none
  | n + 1, l2, c => b_X9_writesFactors_2 th p1 κ (f_X9_writesFactors_2 th p1 κ n) l2 c
theorem f_X9_writesFactors_2_s {th : Nat} {p1 : Int} {κ : W0 → Option (Int × W0)} {n : Nat} {l2 : Int} {c : W0} : f_X9_writesFactors_2 th p1 κ (n + 1) l2 c = b_X9_writesFactors_2 th p1 κ (f_X9_writesFactors_2 th p1 κ n) l2 c := rfl
noncomputable def f_X9_writesFactors (th : Nat) (p1 : Int) (c : W0) : Option (Int × W0) :=
  f_X9_writesFactors_2 th p1 (fun c1 =>
      some (0, c1)) LF 0 c
noncomputable def b_X9_writesProblem_43 (th : Nat) (κ : W0 → Option (Int × W0)) (rec : Int → W0 → Option (Int × W0)) (l1 : Int) (c : W0) : Option (Int × W0) :=
  gd (R32 l1 ∧ R32 (c (th + 1) 1)) <|
  bq ((c (th + 1) 1) ≤ l1) (
    κ c) (
    cl (f_X9_writes th 59 c) fun _ c1 =>
    cl (f_X9_writes th 99 c1) fun _ c3 =>
    cl (f_X9_writesFactors th (6 + (4 * l1)) c3) fun _ c5 =>
    cl (f_X9_writes th 60 c5) fun _ c7 =>
    gd (0 ≤ (22 + l1) ∧ (22 + l1) < 34) <|
    gd (R32 (c7 (th + 1) (22 + l1))) <|
    jn (fun (c10 : W0) =>
        gd (0 ≤ (22 + l1) ∧ (22 + l1) < 34) <|
        gd (R32 (c10 (th + 1) (22 + l1))) <|
        cl (f_X9_writes th (48 + (Int.tmod (c10 (th + 1) (22 + l1)) 10)) c10) fun _ c11 =>
        rec (l1 + 1) c11) fun k9 =>
    bq ((c7 (th + 1) (22 + l1)) ≤ 9) (
      k9 c7) (
      gd (0 ≤ (22 + l1) ∧ (22 + l1) < 34) <|
      gd (R32 (c7 (th + 1) (22 + l1))) <|
      cl (f_X9_writes th (48 + (Int.tdiv (c7 (th + 1) (22 + l1)) 10)) c7) fun _ c13 =>
      k9 c13))
noncomputable def f_X9_writesProblem_43 (th : Nat) (κ : W0 → Option (Int × W0)) : Nat → Int → W0 → Option (Int × W0)
  | 0, _, _ => none
  | n + 1, l1, c => b_X9_writesProblem_43 th κ (f_X9_writesProblem_43 th κ n) l1 c
theorem f_X9_writesProblem_43_s {th : Nat} {κ : W0 → Option (Int × W0)} {n : Nat} {l1 : Int} {c : W0} : f_X9_writesProblem_43 th κ (n + 1) l1 c = b_X9_writesProblem_43 th κ (f_X9_writesProblem_43 th κ n) l1 c := rfl
noncomputable def f_X9_writesProblem (th : Nat) (c : W0) : Option (Int × W0) :=
  sto c th 22 0 fun c1 =>
  cl (f_X9_writes th 118 c1) fun _ c2 =>
  cl (f_X9_writes th (48 + (c2 (th + 1) 0)) c2) fun _ c4 =>
  cl (f_X9_writes th 59 c4) fun _ c6 =>
  cl (f_X9_writes th 109 c6) fun _ c8 =>
  cl (f_X9_writesFactors th 2 c8) fun _ c10 =>
  f_X9_writesProblem_43 th (fun c12 =>
      some (0, c12)) LF 0 c10
noncomputable def b_X9_write_29 (th : Nat) (κ : W0 → Option (Int × W0)) (rec : Int → W0 → Option (Int × W0)) (l1 : Int) (c : W0) : Option (Int × W0) :=
  gd (R32 l1 ∧ R32 (c th 22)) <|
  bq ((c th 22) ≤ l1) (
    κ c) (
    gd (0 ≤ l1 ∧ l1 < 80) <|
    gd (0 ≤ l1 ∧ l1 < 60) <|
    sto c (th + 5) l1 (c (th + 14) l1) fun c1 =>
    rec (l1 + 1) c1)
noncomputable def f_X9_write_29 (th : Nat) (κ : W0 → Option (Int × W0)) : Nat → Int → W0 → Option (Int × W0)
  | 0, _, _ => none
  | n + 1, l1, c => b_X9_write_29 th κ (f_X9_write_29 th κ n) l1 c
theorem f_X9_write_29_s {th : Nat} {κ : W0 → Option (Int × W0)} {n : Nat} {l1 : Int} {c : W0} : f_X9_write_29 th κ (n + 1) l1 c = b_X9_write_29 th κ (f_X9_write_29 th κ n) l1 c := rfl
noncomputable def f_X9_write (th : Nat) (c : W0) : Option (Int × W0) :=
  cl (f_X9_writesProblem th c) fun _ c1 =>
  gd (R32 (c1 th 22)) <|
  jn (fun (v4 : Int) =>
      cl (f_X9_holds th v4 c1) fun v5 c6 =>
      gd (R32 v5) <|
      bq (v5 = 0) (
        some (0, c6)) (
        f_X9_write_29 th (fun c7 =>
            sto c7 th 8 (c7 th 22) fun c8 =>
            some ((c8 th 8), c8)) LF 0 c6)) fun k3 =>
  bq ((c1 th 22) ≤ 60) (
    k3 0) (
    k3 1)
noncomputable def b_X9_undo_33 (th : Nat) (κ : W0 → Option (Int × W0)) (rec : Int → W0 → Option (Int × W0)) (l1 : Int) (c : W0) : Option (Int × W0) :=
  gd (R32 l1) <|
  bq (34 ≤ l1) (
    κ c) (
    gd (0 ≤ ((34 * (c th 4)) + l1) ∧ ((34 * (c th 4)) + l1) < 204) <|
    gd (0 ≤ l1 ∧ l1 < 34) <|
    sto c (th + 1) l1 (c (th + 3) ((34 * (c th 4)) + l1)) fun c1 =>
    rec (l1 + 1) c1)
noncomputable def f_X9_undo_33 (th : Nat) (κ : W0 → Option (Int × W0)) : Nat → Int → W0 → Option (Int × W0)
  | 0, _, _ => none
  | n + 1, l1, c => b_X9_undo_33 th κ (f_X9_undo_33 th κ n) l1 c
theorem f_X9_undo_33_s {th : Nat} {κ : W0 → Option (Int × W0)} {n : Nat} {l1 : Int} {c : W0} : f_X9_undo_33 th κ (n + 1) l1 c = b_X9_undo_33 th κ (f_X9_undo_33 th κ n) l1 c := rfl
noncomputable def f_X9_undo (th : Nat) (c : W0) : Option (Int × W0) :=
  gd (R32 (c th 4)) <|
  jn (fun (v2 : Int) =>
      cl (f_X9_holds th v2 c) fun v3 c4 =>
      gd (R32 v3) <|
      bq (v3 = 0) (
        some (0, c4)) (
        sto c4 th 4 ((c4 th 4) - 1) fun c5 =>
        f_X9_undo_33 th (fun c6 =>
            some ((c6 th 4), c6)) LF 0 c5)) fun k1 =>
  bq ((c th 4) ≤ 0) (
    k1 1) (
    k1 0)
noncomputable def b_X9_keep_7 (th : Nat) (κ : W0 → Option (Int × W0)) (rec : Int → W0 → Option (Int × W0)) (l1 : Int) (c : W0) : Option (Int × W0) :=
  gd (R32 l1) <|
  bq (34 ≤ l1) (
    κ c) (
    gd (0 ≤ l1 ∧ l1 < 34) <|
    gd (0 ≤ l1 ∧ l1 < 34) <|
    sto c (th + 4) l1 (c (th + 1) l1) fun c1 =>
    rec (l1 + 1) c1)
noncomputable def f_X9_keep_7 (th : Nat) (κ : W0 → Option (Int × W0)) : Nat → Int → W0 → Option (Int × W0)
  | 0, _, _ => none
  | n + 1, l1, c => b_X9_keep_7 th κ (f_X9_keep_7 th κ n) l1 c
theorem f_X9_keep_7_s {th : Nat} {κ : W0 → Option (Int × W0)} {n : Nat} {l1 : Int} {c : W0} : f_X9_keep_7 th κ (n + 1) l1 c = b_X9_keep_7 th κ (f_X9_keep_7 th κ n) l1 c := rfl
noncomputable def f_X9_keep (th : Nat) (c : W0) : Option (Int × W0) :=
  sto c th 0 0 fun c1 =>
  f_X9_keep_7 th (fun c2 =>
      sto c2 th 6 1 fun c3 =>
      some ((c3 (th + 1) 32), c3)) LF 0 c1
noncomputable def b_X9_restore_27 (th : Nat) (κ : W0 → Option (Int × W0)) (rec : Int → W0 → Option (Int × W0)) (l1 : Int) (c : W0) : Option (Int × W0) :=
  gd (R32 l1) <|
  bq (34 ≤ l1) (
    κ c) (
    gd (0 ≤ l1 ∧ l1 < 34) <|
    gd (0 ≤ l1 ∧ l1 < 34) <|
    sto c (th + 1) l1 (c (th + 4) l1) fun c1 =>
    rec (l1 + 1) c1)
noncomputable def f_X9_restore_27 (th : Nat) (κ : W0 → Option (Int × W0)) : Nat → Int → W0 → Option (Int × W0)
  | 0, _, _ => none
  | n + 1, l1, c => b_X9_restore_27 th κ (f_X9_restore_27 th κ n) l1 c
theorem f_X9_restore_27_s {th : Nat} {κ : W0 → Option (Int × W0)} {n : Nat} {l1 : Int} {c : W0} : f_X9_restore_27 th κ (n + 1) l1 c = b_X9_restore_27 th κ (f_X9_restore_27 th κ n) l1 c := rfl
noncomputable def f_X9_restore (th : Nat) (c : W0) : Option (Int × W0) :=
  gd (R32 (c th 6)) <|
  jn (fun (v2 : Int) =>
      cl (f_X9_holds th v2 c) fun v3 c4 =>
      gd (R32 v3) <|
      bq (v3 = 0) (
        some (0, c4)) (
        cl (f_X9_save th c4) fun _ c5 =>
        f_X9_restore_27 th (fun c7 =>
            some ((c7 (th + 1) 32), c7)) LF 0 c5)) fun k1 =>
  bq ((c th 6) = 0) (
    k1 1) (
    k1 0)
noncomputable def f_X9_savedStates (th : Nat) (c : W0) : Option (Int × W0) :=
  sto c th 0 0 fun c1 =>
  some ((c1 th 4), c1)
noncomputable def f_X9_variables (th : Nat) (c : W0) : Option (Int × W0) :=
  sto c th 0 0 fun c1 =>
  some ((c1 (th + 1) 0), c1)
noncomputable def f_X9_constraints (th : Nat) (c : W0) : Option (Int × W0) :=
  sto c th 0 0 fun c1 =>
  some ((c1 (th + 1) 1), c1)
noncomputable def f_X9_profitOf (th : Nat) (p1 : Int) (c : W0) : Option (Int × W0) :=
  cv (f_X9_isVariable th p1 c) fun v1 =>
  gd (R32 v1) <|
  jn (fun (v3 : Int) =>
      cl (f_X9_holds th v3 c) fun v4 c5 =>
      gd (R32 v4) <|
      bq (v4 = 0) (
        some (0, c5)) (
        gd (0 ≤ (2 + p1) ∧ (2 + p1) < 34) <|
        some ((c5 (th + 1) (2 + p1)), c5))) fun k2 =>
  bq (v1 = 0) (
    k2 1) (
    k2 0)
noncomputable def f_X9_coefficientOf (th : Nat) (p1 : Int) (p2 : Int) (c : W0) : Option (Int × W0) :=
  cv (f_X9_isConstraint th p1 c) fun v1 =>
  gd (R32 v1) <|
  jn (fun (u3 : Unit) =>
      cl (f_X9_holds th 1 c) fun v4 c5 =>
      gd (R32 v4) <|
      bq (v4 = 0) (
        some (0, c5)) (
        gd (0 ≤ ((6 + (4 * p1)) + p2) ∧ ((6 + (4 * p1)) + p2) < 34) <|
        some ((c5 (th + 1) ((6 + (4 * p1)) + p2)), c5))) fun k2 =>
  bq (v1 = 0) (
    k2 ()) (
    cv (f_X9_isVariable th p2 c) fun v6 =>
    gd (R32 v6) <|
    bq (v6 = 0) (
      k2 ()) (
      cl (f_X9_holds th 0 c) fun v7 c8 =>
      gd (R32 v7) <|
      bq (v7 = 0) (
        some (0, c8)) (
        gd (0 ≤ ((6 + (4 * p1)) + p2) ∧ ((6 + (4 * p1)) + p2) < 34) <|
        some ((c8 (th + 1) ((6 + (4 * p1)) + p2)), c8))))
noncomputable def f_X9_boundOf (th : Nat) (p1 : Int) (c : W0) : Option (Int × W0) :=
  cv (f_X9_isConstraint th p1 c) fun v1 =>
  gd (R32 v1) <|
  jn (fun (v3 : Int) =>
      cl (f_X9_holds th v3 c) fun v4 c5 =>
      gd (R32 v4) <|
      bq (v4 = 0) (
        some (0, c5)) (
        gd (0 ≤ (22 + p1) ∧ (22 + p1) < 34) <|
        some ((c5 (th + 1) (22 + p1)), c5))) fun k2 =>
  bq (v1 = 0) (
    k2 1) (
    k2 0)
noncomputable def f_X9_rule (th : Nat) (c : W0) : Option (Int × W0) :=
  sto c th 0 0 fun c1 =>
  some ((c1 (th + 1) 26), c1)
noncomputable def f_X9_columnOf (th : Nat) (p1 : Int) (c : W0) : Option (Int × W0) :=
  cv (f_X9_isConstraint th p1 c) fun v1 =>
  gd (R32 v1) <|
  jn (fun (v3 : Int) =>
      cl (f_X9_holds th v3 c) fun v4 c5 =>
      gd (R32 v4) <|
      bq (v4 = 0) (
        some (0, c5)) (
        gd (0 ≤ (27 + p1) ∧ (27 + p1) < 34) <|
        some ((c5 (th + 1) (27 + p1)), c5))) fun k2 =>
  bq (v1 = 0) (
    k2 1) (
    k2 0)
noncomputable def f_X9_isNamed (th : Nat) (p1 : Int) (c : W0) : Option (Int × W0) :=
  cv (f_X9_isColumn th p1 c) fun v1 =>
  gd (R32 v1) <|
  jn (fun (v3 : Int) =>
      cl (f_X9_holds th v3 c) fun v4 c5 =>
      gd (R32 v4) <|
      bq (v4 = 0) (
        some (0, c5)) (
        cv (f_X9_isIn th p1 c5) fun v6 =>
        gd (R32 v6) <|
        bq (v6 = 0) (
          some (0, c5)) (
          some (1, c5)))) fun k2 =>
  bq (v1 = 0) (
    k2 1) (
    k2 0)
noncomputable def f_X9_isOptimal (th : Nat) (c : W0) : Option (Int × W0) :=
  sto c th 0 0 fun c1 =>
  cl (f_X9_laysNow th c1) fun _ c2 =>
  cl (f_X9_isBest th c2) fun v4 c5 =>
  gd (0 ≤ v4 ∧ v4 ≤ 1) <|
  some (v4, c5)
noncomputable def f_X9_hasRay (th : Nat) (c : W0) : Option (Int × W0) :=
  sto c th 0 0 fun c1 =>
  cl (f_X9_laysNow th c1) fun _ c2 =>
  cl (f_X9_endless th c2) fun v4 c5 =>
  gd (R32 v4) <|
  bq (v4 < 0) (
    some (0, c5)) (
    some (1, c5))
noncomputable def f_X9_pivots (th : Nat) (c : W0) : Option (Int × W0) :=
  sto c th 0 0 fun c1 =>
  some ((c1 (th + 1) 31), c1)
noncomputable def f_X9_allPivots (th : Nat) (c : W0) : Option (Int × W0) :=
  sto c th 0 0 fun c1 =>
  some ((c1 (th + 1) 32), c1)
noncomputable def f_X9_idlePivots (th : Nat) (c : W0) : Option (Int × W0) :=
  sto c th 0 0 fun c1 =>
  some ((c1 (th + 1) 33), c1)
noncomputable def f_X9_entryOf (th : Nat) (p1 : Int) (p2 : Int) (c : W0) : Option (Int × W0) :=
  cl (f_X9_laysNow th c) fun _ c1 =>
  gd (0 ≤ ((9 * p1) + p2) ∧ ((9 * p1) + p2) < 36) <|
  gd (0 ≤ ((9 * p1) + p2) ∧ ((9 * p1) + p2) < 36) <|
  cl (f_X9_becomes th (c1 (th + 6) ((9 * p1) + p2)) (c1 (th + 7) ((9 * p1) + p2)) c1) fun _ c3 =>
  some (0, c3)
noncomputable def f_X9_entryNumerator (th : Nat) (p1 : Int) (p2 : Int) (c : W0) : Option (Int × W0) :=
  cv (f_X9_isPlace th p1 p2 c) fun v1 =>
  gd (R32 v1) <|
  jn (fun (v3 : Int) =>
      cl (f_X9_holds th v3 c) fun v4 c5 =>
      gd (R32 v4) <|
      bq (v4 = 0) (
        some (0, c5)) (
        cl (f_X9_entryOf th p1 p2 c5) fun _ c6 =>
        some ((c6 th 16), c6))) fun k2 =>
  bq (v1 = 0) (
    k2 1) (
    k2 0)
noncomputable def f_X9_entryDenominator (th : Nat) (p1 : Int) (p2 : Int) (c : W0) : Option (Int × W0) :=
  cv (f_X9_isPlace th p1 p2 c) fun v1 =>
  gd (R32 v1) <|
  jn (fun (v3 : Int) =>
      cl (f_X9_holds th v3 c) fun v4 c5 =>
      gd (R32 v4) <|
      bq (v4 = 0) (
        some (0, c5)) (
        cl (f_X9_entryOf th p1 p2 c5) fun _ c6 =>
        some ((c6 th 17), c6))) fun k2 =>
  bq (v1 = 0) (
    k2 1) (
    k2 0)
noncomputable def f_X9_reducedOf (th : Nat) (p1 : Int) (c : W0) : Option (Int × W0) :=
  cl (f_X9_laysNow th c) fun _ c1 =>
  cl (f_X9_reduces th p1 c1) fun _ c3 =>
  some (0, c3)
noncomputable def f_X9_reducedNumerator (th : Nat) (p1 : Int) (c : W0) : Option (Int × W0) :=
  cv (f_X9_isColumn th p1 c) fun v1 =>
  gd (R32 v1) <|
  jn (fun (v3 : Int) =>
      cl (f_X9_holds th v3 c) fun v4 c5 =>
      gd (R32 v4) <|
      bq (v4 = 0) (
        some (0, c5)) (
        cl (f_X9_reducedOf th p1 c5) fun _ c6 =>
        some ((c6 th 16), c6))) fun k2 =>
  bq (v1 = 0) (
    k2 1) (
    k2 0)
noncomputable def f_X9_reducedDenominator (th : Nat) (p1 : Int) (c : W0) : Option (Int × W0) :=
  cv (f_X9_isColumn th p1 c) fun v1 =>
  gd (R32 v1) <|
  jn (fun (v3 : Int) =>
      cl (f_X9_holds th v3 c) fun v4 c5 =>
      gd (R32 v4) <|
      bq (v4 = 0) (
        some (0, c5)) (
        cl (f_X9_reducedOf th p1 c5) fun _ c6 =>
        some ((c6 th 17), c6))) fun k2 =>
  bq (v1 = 0) (
    k2 1) (
    k2 0)
noncomputable def f_X9_valueNow (th : Nat) (c : W0) : Option (Int × W0) :=
  cl (f_X9_laysNow th c) fun _ c1 =>
  cl (f_X9_values th c1) fun _ c3 =>
  some (0, c3)
noncomputable def f_X9_valueNumerator (th : Nat) (c : W0) : Option (Int × W0) :=
  sto c th 0 0 fun c1 =>
  cl (f_X9_valueNow th c1) fun _ c2 =>
  some ((c2 th 16), c2)
noncomputable def f_X9_valueDenominator (th : Nat) (c : W0) : Option (Int × W0) :=
  sto c th 0 0 fun c1 =>
  cl (f_X9_valueNow th c1) fun _ c2 =>
  some ((c2 th 17), c2)
noncomputable def b_X9_givenTo_12 (th : Nat) (p1 : Int) (κ : W0 → Option (Int × W0)) (rec : Int → W0 → Option (Int × W0)) (l2 : Int) (c : W0) : Option (Int × W0) :=
  gd (R32 l2 ∧ R32 (c (th + 1) 1)) <|
  bq ((c (th + 1) 1) ≤ l2) (
    κ c) (
    gd (0 ≤ l2 ∧ l2 < 4) <|
    gd (R32 (c (th + 8) l2) ∧ R32 p1) <|
    bq ((c (th + 8) l2) = p1) (
      cv (f_X9_entry th l2 8 c) fun v1 =>
      gd (0 ≤ (((9 * l2) + 9) - 1) ∧ (((9 * l2) + 9) - 1) < 36) <|
      cl (f_X9_becomes th v1 (c (th + 7) (((9 * l2) + 9) - 1)) c) fun _ c2 =>
      rec (l2 + 1) c2) (
      rec (l2 + 1) c))
noncomputable def f_X9_givenTo_12 (th : Nat) (p1 : Int) (κ : W0 → Option (Int × W0)) : Nat → Int → W0 → Option (Int × W0)
  | 0, _, _ => none
  | n + 1, l2, c => b_X9_givenTo_12 th p1 κ (f_X9_givenTo_12 th p1 κ n) l2 c
theorem f_X9_givenTo_12_s {th : Nat} {p1 : Int} {κ : W0 → Option (Int × W0)} {n : Nat} {l2 : Int} {c : W0} : f_X9_givenTo_12 th p1 κ (n + 1) l2 c = b_X9_givenTo_12 th p1 κ (f_X9_givenTo_12 th p1 κ n) l2 c := rfl
noncomputable def f_X9_givenTo (th : Nat) (p1 : Int) (c : W0) : Option (Int × W0) :=
  cl (f_X9_laysNow th c) fun _ c1 =>
  cl (f_X9_becomes th 0 1 c1) fun _ c3 =>
  f_X9_givenTo_12 th p1 (fun c5 =>
      some (0, c5)) LF 0 c3
noncomputable def f_X9_givenNumerator (th : Nat) (p1 : Int) (c : W0) : Option (Int × W0) :=
  cv (f_X9_isColumn th p1 c) fun v1 =>
  gd (R32 v1) <|
  jn (fun (v3 : Int) =>
      cl (f_X9_holds th v3 c) fun v4 c5 =>
      gd (R32 v4) <|
      bq (v4 = 0) (
        some (0, c5)) (
        cl (f_X9_givenTo th p1 c5) fun _ c6 =>
        some ((c6 th 16), c6))) fun k2 =>
  bq (v1 = 0) (
    k2 1) (
    k2 0)
noncomputable def f_X9_givenDenominator (th : Nat) (p1 : Int) (c : W0) : Option (Int × W0) :=
  cv (f_X9_isColumn th p1 c) fun v1 =>
  gd (R32 v1) <|
  jn (fun (v3 : Int) =>
      cl (f_X9_holds th v3 c) fun v4 c5 =>
      gd (R32 v4) <|
      bq (v4 = 0) (
        some (0, c5)) (
        cl (f_X9_givenTo th p1 c5) fun _ c6 =>
        some ((c6 th 17), c6))) fun k2 =>
  bq (v1 = 0) (
    k2 1) (
    k2 0)
noncomputable def f_X9_value (th : Nat) (c : W0) : Option (UInt64 × W0) :=
  sto c th 0 0 fun c1 =>
  cl (f_X9_valueNow th c1) fun _ c2 =>
  gd (vf_n64 (FP.ddiv (FP.l2d (i64 (c2 th 16))) (FP.l2d (i64 (c2 th 17))))) <|
  some ((FP.ddiv (FP.l2d (i64 (c2 th 16))) (FP.l2d (i64 (c2 th 17)))), c2)
noncomputable def f_X9_dualOf (th : Nat) (p1 : Int) (c : W0) : Option (Int × W0) :=
  cl (f_X9_reducedOf th ((c (th + 1) 0) + p1) c) fun _ c1 =>
  sto c1 th 16 (-(c1 th 16)) fun c3 =>
  some (0, c3)
noncomputable def f_X9_dualNumerator (th : Nat) (p1 : Int) (c : W0) : Option (Int × W0) :=
  cv (f_X9_isConstraint th p1 c) fun v1 =>
  gd (R32 v1) <|
  jn (fun (v3 : Int) =>
      cl (f_X9_holds th v3 c) fun v4 c5 =>
      gd (R32 v4) <|
      bq (v4 = 0) (
        some (0, c5)) (
        cl (f_X9_dualOf th p1 c5) fun _ c6 =>
        some ((c6 th 16), c6))) fun k2 =>
  bq (v1 = 0) (
    k2 1) (
    k2 0)
noncomputable def f_X9_dualDenominator (th : Nat) (p1 : Int) (c : W0) : Option (Int × W0) :=
  cv (f_X9_isConstraint th p1 c) fun v1 =>
  gd (R32 v1) <|
  jn (fun (v3 : Int) =>
      cl (f_X9_holds th v3 c) fun v4 c5 =>
      gd (R32 v4) <|
      bq (v4 = 0) (
        some (0, c5)) (
        cl (f_X9_dualOf th p1 c5) fun _ c6 =>
        some ((c6 th 17), c6))) fun k2 =>
  bq (v1 = 0) (
    k2 1) (
    k2 0)
noncomputable def f_X9_dualNumeratorByEquations (th : Nat) (p1 : Int) (c : W0) : Option (Int × W0) :=
  cl (f_X9_dualNumerator th p1 c) fun v1 c2 =>
  some (v1, c2)
noncomputable def f_X9_dualDenominatorByEquations (th : Nat) (p1 : Int) (c : W0) : Option (Int × W0) :=
  cl (f_X9_dualDenominator th p1 c) fun v1 c2 =>
  some (v1, c2)
noncomputable def b_X9_dualValue_7 (th : Nat) (κ : Int → Int → W0 → Option (Int × W0)) (rec : Int → Int → Int → W0 → Option (Int × W0)) (l1 : Int) (l3 : Int) (l5 : Int) (c : W0) : Option (Int × W0) :=
  gd (R32 l5 ∧ R32 (c (th + 1) 1)) <|
  bq ((c (th + 1) 1) ≤ l5) (
    κ l1 l3 c) (
    cl (f_X9_dualOf th l5 c) fun _ c1 =>
    cl (f_X9_becomes th l1 l3 c1) fun _ c3 =>
    gd (0 ≤ (22 + l5) ∧ (22 + l5) < 34) <|
    gd (R32 (c3 (th + 1) (22 + l5))) <|
    cl (f_X9_adds th (c3 (th + 1) (22 + l5)) (c1 th 16) (c1 th 17) c3) fun _ c5 =>
    rec (c5 th 16) (c5 th 17) (l5 + 1) c5)
noncomputable def f_X9_dualValue_7 (th : Nat) (κ : Int → Int → W0 → Option (Int × W0)) : Nat → Int → Int → Int → W0 → Option (Int × W0)
  | 0, _, _, _, _ => none
  | n + 1, l1, l3, l5, c => b_X9_dualValue_7 th κ (f_X9_dualValue_7 th κ n) l1 l3 l5 c
theorem f_X9_dualValue_7_s {th : Nat} {κ : Int → Int → W0 → Option (Int × W0)} {n : Nat} {l1 : Int} {l3 : Int} {l5 : Int} {c : W0} : f_X9_dualValue_7 th κ (n + 1) l1 l3 l5 c = b_X9_dualValue_7 th κ (f_X9_dualValue_7 th κ n) l1 l3 l5 c := rfl
noncomputable def f_X9_dualValue (th : Nat) (c : W0) : Option (Int × W0) :=
  f_X9_dualValue_7 th (fun v1 v2 c3 =>
      cl (f_X9_becomes th v1 v2 c3) fun _ c4 =>
      some (0, c4)) LF 0 1 0 c
noncomputable def f_X9_dualValueNumerator (th : Nat) (c : W0) : Option (Int × W0) :=
  sto c th 0 0 fun c1 =>
  cl (f_X9_dualValue th c1) fun _ c2 =>
  some ((c2 th 16), c2)
noncomputable def f_X9_dualValueDenominator (th : Nat) (c : W0) : Option (Int × W0) :=
  sto c th 0 0 fun c1 =>
  cl (f_X9_dualValue th c1) fun _ c2 =>
  some ((c2 th 17), c2)
noncomputable def f_X9_endlessNow (th : Nat) (c : W0) : Option (Int × W0) :=
  cl (f_X9_laysNow th c) fun _ c1 =>
  cl (f_X9_endless th c1) fun v3 c4 =>
  some (v3, c4)
noncomputable def f_X9_rayColumn (th : Nat) (c : W0) : Option (Int × W0) :=
  cl (f_X9_endlessNow th c) fun v1 c2 =>
  gd (R32 v1) <|
  jn (fun (v4 : Int) =>
      cl (f_X9_holds th v4 c2) fun v5 c6 =>
      gd (R32 v5) <|
      bq (v5 = 0) (
        some (0, c6)) (
        cl (f_X9_endlessNow th c6) fun v7 c8 =>
        some (v7, c8))) fun k3 =>
  bq (0 ≤ v1) (
    k3 0) (
    k3 1)
noncomputable def b_X9_along_22 (th : Nat) (p1 : Int) (l2 : Int) (κ : W0 → Option (Int × W0)) (rec : Int → W0 → Option (Int × W0)) (l3 : Int) (c : W0) : Option (Int × W0) :=
  gd (R32 l3 ∧ R32 (c (th + 1) 1)) <|
  bq ((c (th + 1) 1) ≤ l3) (
    κ c) (
    gd (0 ≤ l3 ∧ l3 < 4) <|
    gd (R32 (c (th + 8) l3) ∧ R32 p1) <|
    bq ((c (th + 8) l3) = p1) (
      cv (f_X9_entry th l3 l2 c) fun v1 =>
      gd (0 ≤ ((9 * l3) + l2) ∧ ((9 * l3) + l2) < 36) <|
      cl (f_X9_becomes th (-v1) (c (th + 7) ((9 * l3) + l2)) c) fun _ c2 =>
      rec (l3 + 1) c2) (
      rec (l3 + 1) c))
noncomputable def f_X9_along_22 (th : Nat) (p1 : Int) (l2 : Int) (κ : W0 → Option (Int × W0)) : Nat → Int → W0 → Option (Int × W0)
  | 0, _, _ => none
  | n + 1, l3, c => b_X9_along_22 th p1 l2 κ (f_X9_along_22 th p1 l2 κ n) l3 c
theorem f_X9_along_22_s {th : Nat} {p1 : Int} {l2 : Int} {κ : W0 → Option (Int × W0)} {n : Nat} {l3 : Int} {c : W0} : f_X9_along_22 th p1 l2 κ (n + 1) l3 c = b_X9_along_22 th p1 l2 κ (f_X9_along_22 th p1 l2 κ n) l3 c := rfl
noncomputable def f_X9_along (th : Nat) (p1 : Int) (c : W0) : Option (Int × W0) :=
  cl (f_X9_endlessNow th c) fun v1 c2 =>
  gd (R32 p1 ∧ R32 v1) <|
  jn (fun (v4 : Int) =>
      cl (f_X9_becomes th v4 1 c2) fun _ c5 =>
      f_X9_along_22 th p1 v1 (fun c7 =>
          some (0, c7)) LF 0 c5) fun k3 =>
  bq (p1 = v1) (
    k3 1) (
    k3 0)
noncomputable def f_X9_errorOfRay (th : Nat) (p1 : Int) (c : W0) : Option (Int × W0) :=
  cv (f_X9_isColumn th p1 c) fun v1 =>
  gd (R32 v1) <|
  bq (v1 = 0) (
    some (1, c)) (
    cl (f_X9_endlessNow th c) fun v2 c3 =>
    gd (R32 v2) <|
    bq (0 ≤ v2) (
      some (0, c3)) (
      some (2, c3)))
noncomputable def f_X9_rayNumerator (th : Nat) (p1 : Int) (c : W0) : Option (Int × W0) :=
  cl (f_X9_errorOfRay th p1 c) fun v1 c2 =>
  cl (f_X9_holds th v1 c2) fun v3 c4 =>
  gd (R32 v3) <|
  bq (v3 = 0) (
    some (0, c4)) (
    cl (f_X9_along th p1 c4) fun _ c5 =>
    some ((c5 th 16), c5))
noncomputable def f_X9_rayDenominator (th : Nat) (p1 : Int) (c : W0) : Option (Int × W0) :=
  cl (f_X9_errorOfRay th p1 c) fun v1 c2 =>
  cl (f_X9_holds th v1 c2) fun v3 c4 =>
  gd (R32 v3) <|
  bq (v3 = 0) (
    some (0, c4)) (
    cl (f_X9_along th p1 c4) fun _ c5 =>
    some ((c5 th 17), c5))
noncomputable def b_X9_namesSet_4 (th : Nat) (p1 : Int) (κ : Int → W0 → Option (Int × W0)) (rec : Int → Int → W0 → Option (Int × W0)) (l2 : Int) (l3 : Int) (c : W0) : Option (Int × W0) :=
  cv (f_X9_columns th c) fun v1 =>
  gd (R32 l3 ∧ R32 v1) <|
  bq (v1 ≤ l3) (
    κ l2 c) (
    gd (R32 (iandZ (ishrZ p1 l3) 1)) <|
    bq ((iandZ (ishrZ p1 l3) 1) = 1) (
      gd (R32 l2 ∧ R32 (c (th + 1) 1)) <|
      bq ((c (th + 1) 1) ≤ l2) (
        rec (l2 + 1) (l3 + 1) c) (
        gd (0 ≤ l2 ∧ l2 < 4) <|
        sto c (th + 8) l2 l3 fun c2 =>
        rec (l2 + 1) (l3 + 1) c2)) (
      rec l2 (l3 + 1) c))
noncomputable def f_X9_namesSet_4 (th : Nat) (p1 : Int) (κ : Int → W0 → Option (Int × W0)) : Nat → Int → Int → W0 → Option (Int × W0)
  | 0, _, _, _ => none
  | n + 1, l2, l3, c => b_X9_namesSet_4 th p1 κ (f_X9_namesSet_4 th p1 κ n) l2 l3 c
theorem f_X9_namesSet_4_s {th : Nat} {p1 : Int} {κ : Int → W0 → Option (Int × W0)} {n : Nat} {l2 : Int} {l3 : Int} {c : W0} : f_X9_namesSet_4 th p1 κ (n + 1) l2 l3 c = b_X9_namesSet_4 th p1 κ (f_X9_namesSet_4 th p1 κ n) l2 l3 c := rfl
noncomputable def f_X9_namesSet (th : Nat) (p1 : Int) (c : W0) : Option (Int × W0) :=
  f_X9_namesSet_4 th p1 (fun v1 c2 =>
      gd (R32 v1 ∧ R32 (c2 (th + 1) 1)) <|
      bq (v1 = (c2 (th + 1) 1)) (
        some (1, c2)) (
        some (0, c2))) LF 0 0 c
noncomputable def b_X9_looksAtValue_4 (th : Nat) (c : W0) (κ : Int → Option (Int × W0)) (rec : Int → Int → Option (Int × W0)) (l1 : Int) (l2 : Int) : Option (Int × W0) :=
  gd (R32 l2 ∧ R32 (c th 24)) <|
  bq ((c th 24) ≤ l2) (
    κ l1) (
    gd (R32 l1) <|
    bq (l1 = 0) (
      rec 0 (l2 + 1)) (
      gd (0 ≤ (2 * l2) ∧ (2 * l2) < 140) <|
      gd (R64 (c (th + 12) (2 * l2)) ∧ R64 (c th 16)) <|
      jn (fun (u2 : Unit) =>
          rec 1 (l2 + 1)) fun k1 =>
      bq ((c (th + 12) (2 * l2)) = (c th 16)) (
        gd (0 ≤ ((2 * l2) + 1) ∧ ((2 * l2) + 1) < 140) <|
        gd (R64 (c (th + 12) ((2 * l2) + 1)) ∧ R64 (c th 17)) <|
        bq ((c (th + 12) ((2 * l2) + 1)) = (c th 17)) (
          rec 0 (l2 + 1)) (
          k1 ())) (
        k1 ())))
noncomputable def f_X9_looksAtValue_4 (th : Nat) (c : W0) (κ : Int → Option (Int × W0)) : Nat → Int → Int → Option (Int × W0)
  | 0, _, _ => none
  | n + 1, l1, l2 => b_X9_looksAtValue_4 th c κ (f_X9_looksAtValue_4 th c κ n) l1 l2
theorem f_X9_looksAtValue_4_s {th : Nat} {c : W0} {κ : Int → Option (Int × W0)} {n : Nat} {l1 : Int} {l2 : Int} : f_X9_looksAtValue_4 th c κ (n + 1) l1 l2 = b_X9_looksAtValue_4 th c κ (f_X9_looksAtValue_4 th c κ n) l1 l2 := rfl
noncomputable def f_X9_looksAtValue (th : Nat) (c : W0) : Option (Int × W0) :=
  f_X9_looksAtValue_4 th c (fun v1 =>
      gd (R32 v1) <|
      jn (fun (c3 : W0) =>
          gd (R32 (c3 th 23)) <|
          jn (fun (u5 : Unit) =>
              jn (fun (v7 : Int) =>
                  sto c3 th 25 v7 fun c8 =>
                  bq (1 = 0) (
                    sto c8 th 26 (c8 th 26) fun c9 =>
                    some (0, c9)) (
                    sto c8 th 26 (c8 th 17) fun c10 =>
                    some (0, c10))) fun k6 =>
              bq (1 = 0) (
                k6 (c3 th 25)) (
                k6 (c3 th 16))) fun k4 =>
          bq ((c3 th 23) = 1) (
            k4 ()) (
            gd (R64 ((c3 th 16) * (c3 th 26)) ∧ R64 ((c3 th 25) * (c3 th 17))) <|
            bq (((c3 th 16) * (c3 th 26)) ≤ ((c3 th 25) * (c3 th 17))) (
              jn (fun (v12 : Int) =>
                  sto c3 th 25 v12 fun c13 =>
                  bq (0 = 0) (
                    sto c13 th 26 (c13 th 26) fun c14 =>
                    some (0, c14)) (
                    sto c13 th 26 (c13 th 17) fun c15 =>
                    some (0, c15))) fun k11 =>
              bq (0 = 0) (
                k11 (c3 th 25)) (
                k11 (c3 th 16))) (
              k4 ()))) fun k2 =>
      bq (v1 = 0) (
        k2 c) (
        gd (0 ≤ (2 * (c th 24)) ∧ (2 * (c th 24)) < 140) <|
        sto c (th + 12) (2 * (c th 24)) (c th 16) fun c16 =>
        gd (0 ≤ ((2 * (c16 th 24)) + 1) ∧ ((2 * (c16 th 24)) + 1) < 140) <|
        sto c16 (th + 12) ((2 * (c16 th 24)) + 1) (c16 th 17) fun c17 =>
        sto c17 th 24 ((c17 th 24) + 1) fun c18 =>
        k2 c18)) LF 1 0
noncomputable def b_X9_looksAtBases_12 (th : Nat) (κ : W0 → Option (Int × W0)) (rec : Int → W0 → Option (Int × W0)) (l1 : Int) (c : W0) : Option (Int × W0) :=
  cv (f_X9_columns th c) fun v1 =>
  gd (R32 l1 ∧ R32 (ishlZ 1 v1)) <|
  bq ((ishlZ 1 v1) ≤ l1) (
    κ c) (
    cl (f_X9_namesSet th l1 c) fun v2 c3 =>
    gd (R32 v2) <|
    bq (v2 = 0) (
      rec (l1 + 1) c3) (
      cl (f_X9_lays th c3) fun v4 c5 =>
      gd (R32 v4) <|
      bq (v4 = 0) (
        rec (l1 + 1) c5) (
        cv (f_X9_isFeasible th c5) fun v6 =>
        gd (R32 v6) <|
        bq (v6 = 0) (
          rec (l1 + 1) c5) (
          sto c5 th 23 ((c5 th 23) + 1) fun c7 =>
          cl (f_X9_values th c7) fun _ c8 =>
          cl (f_X9_looksAtValue th c8) fun _ c10 =>
          rec (l1 + 1) c10))))
noncomputable def f_X9_looksAtBases_12 (th : Nat) (κ : W0 → Option (Int × W0)) : Nat → Int → W0 → Option (Int × W0)
  | 0, _, _ => none
  | n + 1, l1, c => b_X9_looksAtBases_12 th κ (f_X9_looksAtBases_12 th κ n) l1 c
theorem f_X9_looksAtBases_12_s {th : Nat} {κ : W0 → Option (Int × W0)} {n : Nat} {l1 : Int} {c : W0} : f_X9_looksAtBases_12 th κ (n + 1) l1 c = b_X9_looksAtBases_12 th κ (f_X9_looksAtBases_12 th κ n) l1 c := rfl
noncomputable def f_X9_looksAtBases (th : Nat) (c : W0) : Option (Int × W0) :=
  sto c th 23 0 fun c1 =>
  sto c1 th 24 0 fun c2 =>
  f_X9_looksAtBases_12 th (fun c3 =>
      some (0, c3)) LF 0 c2
noncomputable def f_X9_feasibleBases (th : Nat) (c : W0) : Option (Int × W0) :=
  sto c th 0 0 fun c1 =>
  cl (f_X9_looksAtBases th c1) fun _ c2 =>
  some ((c2 th 23), c2)
noncomputable def f_X9_unlikeValues (th : Nat) (c : W0) : Option (Int × W0) :=
  sto c th 0 0 fun c1 =>
  cl (f_X9_looksAtBases th c1) fun _ c2 =>
  some ((c2 th 24), c2)
noncomputable def f_X9_bestNumerator (th : Nat) (c : W0) : Option (Int × W0) :=
  sto c th 0 0 fun c1 =>
  cl (f_X9_looksAtBases th c1) fun _ c2 =>
  some ((c2 th 25), c2)
noncomputable def f_X9_bestDenominator (th : Nat) (c : W0) : Option (Int × W0) :=
  sto c th 0 0 fun c1 =>
  cl (f_X9_looksAtBases th c1) fun _ c2 =>
  some ((c2 th 26), c2)
noncomputable def f_X9_whyNoPivot (th : Nat) (p1 : Int) (p2 : Int) (c : W0) : Option (Int × W0) :=
  cv (f_X9_isPlace th p1 p2 c) fun v1 =>
  gd (R32 v1) <|
  jn (fun (v3 : Int) =>
      cl (f_X9_holds th v3 c) fun v4 c5 =>
      gd (R32 v4) <|
      bq (v4 = 0) (
        some (0, c5)) (
        cl (f_X9_hindrance th p1 p2 c5) fun v6 c7 =>
        some (v6, c7))) fun k2 =>
  bq (v1 = 0) (
    k2 1) (
    k2 0)
noncomputable def f_X9_nextColumn (th : Nat) (c : W0) : Option (Int × W0) :=
  cl (f_X9_isAtEnd th c) fun v1 c2 =>
  gd (R32 v1) <|
  jn (fun (v4 : Int) =>
      cl (f_X9_holds th v4 c2) fun v5 c6 =>
      gd (R32 v5) <|
      bq (v5 = 0) (
        some (0, c6)) (
        cl (f_X9_bestColumn th c6) fun v7 c8 =>
        some (v7, c8))) fun k3 =>
  bq (v1 = 0) (
    k3 0) (
    k3 1)
noncomputable def f_X9_nextRow (th : Nat) (c : W0) : Option (Int × W0) :=
  cl (f_X9_isAtEnd th c) fun v1 c2 =>
  gd (R32 v1) <|
  jn (fun (v4 : Int) =>
      cl (f_X9_holds th v4 c2) fun v5 c6 =>
      gd (R32 v5) <|
      bq (v5 = 0) (
        some (0, c6)) (
        cl (f_X9_bestColumn th c6) fun v7 c8 =>
        cv (f_X9_leastRow th v7 c8) fun v9 =>
        some (v9, c8))) fun k3 =>
  bq (v1 = 0) (
    k3 0) (
    k3 1)
noncomputable def f_X9_leftPivots (th : Nat) (c : W0) : Option (Int × W0) :=
  cl (f_X9_putAside th c) fun _ c1 =>
  cl (f_X9_solves th c1) fun v3 c4 =>
  cl (f_X9_putBack th c4) fun _ c5 =>
  some (v3, c5)
noncomputable def f_X9_pivotsLeft (th : Nat) (c : W0) : Option (Int × W0) :=
  sto c th 0 0 fun c1 =>
  cl (f_X9_leftPivots th c1) fun v2 c3 =>
  some (v2, c3)
noncomputable def b_X9_staysFeasible_5 (th : Nat) (p1 : Int) (p2 : Int) (κ : Int → W0 → Option (Int × W0)) (rec : Int → Int → W0 → Option (Int × W0)) (l3 : Int) (l4 : Int) (c : W0) : Option (Int × W0) :=
  gd (R32 l4 ∧ R32 (c (th + 1) 1)) <|
  bq ((c (th + 1) 1) ≤ l4) (
    κ l3 c) (
    cv (f_X9_entry th l4 8 c) fun v1 =>
    gd (0 ≤ (((9 * l4) + 9) - 1) ∧ (((9 * l4) + 9) - 1) < 36) <|
    cl (f_X9_becomes th v1 (c (th + 7) (((9 * l4) + 9) - 1)) c) fun _ c2 =>
    gd (0 ≤ (22 + p1) ∧ (22 + p1) < 34) <|
    gd (R32 (p2 - (c2 (th + 1) (22 + p1)))) <|
    cv (f_X9_entry th l4 ((c2 (th + 1) 0) + p1) c2) fun v4 =>
    gd (0 ≤ (((9 * l4) + (c2 (th + 1) 0)) + p1) ∧ (((9 * l4) + (c2 (th + 1) 0)) + p1) < 36) <|
    cl (f_X9_adds th (p2 - (c2 (th + 1) (22 + p1))) v4 (c2 (th + 7) (((9 * l4) + (c2 (th + 1) 0)) + p1)) c2) fun _ c5 =>
    gd (R32 l3) <|
    bq (l3 = 0) (
      rec 0 (l4 + 1) c5) (
      gd (R64 (c5 th 16)) <|
      bq ((c5 th 16) < 0) (
        rec 0 (l4 + 1) c5) (
        rec 1 (l4 + 1) c5)))
noncomputable def f_X9_staysFeasible_5 (th : Nat) (p1 : Int) (p2 : Int) (κ : Int → W0 → Option (Int × W0)) : Nat → Int → Int → W0 → Option (Int × W0)
  | 0, _, _, _ => none
  | n + 1, l3, l4, c => b_X9_staysFeasible_5 th p1 p2 κ (f_X9_staysFeasible_5 th p1 p2 κ n) l3 l4 c
theorem f_X9_staysFeasible_5_s {th : Nat} {p1 : Int} {p2 : Int} {κ : Int → W0 → Option (Int × W0)} {n : Nat} {l3 : Int} {l4 : Int} {c : W0} : f_X9_staysFeasible_5 th p1 p2 κ (n + 1) l3 l4 c = b_X9_staysFeasible_5 th p1 p2 κ (f_X9_staysFeasible_5 th p1 p2 κ n) l3 l4 c := rfl
noncomputable def f_X9_staysFeasible (th : Nat) (p1 : Int) (p2 : Int) (c : W0) : Option (Int × W0) :=
  f_X9_staysFeasible_5 th p1 p2 (fun v1 c2 =>
      gd (0 ≤ v1 ∧ v1 ≤ 1) <|
      some (v1, c2)) LF 1 0 c
noncomputable def b_X9_outer_17 (th : Nat) (p1 : Int) (p2 : Int) (κ : Int → W0 → Option (Int × W0)) (rec : Int → Int → W0 → Option (Int × W0)) (l3 : Int) (l4 : Int) (c : W0) : Option (Int × W0) :=
  gd (R32 l4) <|
  bq (100 ≤ l4) (
    κ l3 c) (
    gd (R32 p2) <|
    jn (fun (v2 : Int) =>
        cl (f_X9_staysFeasible th p1 v2 c) fun v3 c4 =>
        gd (R32 v3) <|
        bq (v3 = 0) (
          rec l3 (l4 + 1) c4) (
          rec v2 (l4 + 1) c4)) fun k1 =>
    bq (p2 = 0) (
      k1 l4) (
      k1 (99 - l4)))
noncomputable def f_X9_outer_17 (th : Nat) (p1 : Int) (p2 : Int) (κ : Int → W0 → Option (Int × W0)) : Nat → Int → Int → W0 → Option (Int × W0)
  | 0, _, _, _ => none
  | n + 1, l3, l4, c => b_X9_outer_17 th p1 p2 κ (f_X9_outer_17 th p1 p2 κ n) l3 l4 c
theorem f_X9_outer_17_s {th : Nat} {p1 : Int} {p2 : Int} {κ : Int → W0 → Option (Int × W0)} {n : Nat} {l3 : Int} {l4 : Int} {c : W0} : f_X9_outer_17 th p1 p2 κ (n + 1) l3 l4 c = b_X9_outer_17 th p1 p2 κ (f_X9_outer_17 th p1 p2 κ n) l3 l4 c := rfl
noncomputable def f_X9_outer (th : Nat) (p1 : Int) (p2 : Int) (c : W0) : Option (Int × W0) :=
  cl (f_X9_laysNow th c) fun _ c1 =>
  gd (0 ≤ (22 + p1) ∧ (22 + p1) < 34) <|
  f_X9_outer_17 th p1 p2 (fun v3 c4 =>
      some (v3, c4)) LF (c1 (th + 1) (22 + p1)) 0 c1
noncomputable def f_X9_leastBound (th : Nat) (p1 : Int) (c : W0) : Option (Int × W0) :=
  cv (f_X9_isConstraint th p1 c) fun v1 =>
  gd (R32 v1) <|
  jn (fun (v3 : Int) =>
      cl (f_X9_holds th v3 c) fun v4 c5 =>
      gd (R32 v4) <|
      bq (v4 = 0) (
        some (0, c5)) (
        cl (f_X9_outer th p1 1 c5) fun v6 c7 =>
        some (v6, c7))) fun k2 =>
  bq (v1 = 0) (
    k2 1) (
    k2 0)
noncomputable def f_X9_greatestBound (th : Nat) (p1 : Int) (c : W0) : Option (Int × W0) :=
  cv (f_X9_isConstraint th p1 c) fun v1 =>
  gd (R32 v1) <|
  jn (fun (v3 : Int) =>
      cl (f_X9_holds th v3 c) fun v4 c5 =>
      gd (R32 v4) <|
      bq (v4 = 0) (
        some (0, c5)) (
        cl (f_X9_outer th p1 0 c5) fun v6 c7 =>
        some (v6, c7))) fun k2 =>
  bq (v1 = 0) (
    k2 1) (
    k2 0)
noncomputable def f_X9_errorOfSolved (th : Nat) (p1 : Int) (p2 : Int) (c : W0) : Option (Int × W0) :=
  cv (f_X9_isConstraint th p1 c) fun v1 =>
  gd (R32 v1) <|
  jn (fun (u3 : Unit) =>
      cv (f_X9_isConstraint th p1 c) fun v4 =>
      gd (R32 v4) <|
      bq (v4 = 0) (
        some (1, c)) (
        some (2, c))) fun k2 =>
  bq (v1 = 0) (
    k2 ()) (
    cv (f_X9_in p2 0 99) fun v5 =>
    gd (R32 v5) <|
    bq (v5 = 0) (
      k2 ()) (
      cl (f_X9_putAside th c) fun _ c6 =>
      gd (0 ≤ (22 + p1) ∧ (22 + p1) < 34) <|
      sto c6 (th + 1) (22 + p1) p2 fun c8 =>
      cl (f_X9_begins th c8) fun _ c9 =>
      cl (f_X9_solves th c9) fun v11 c12 =>
      cl (f_X9_isBest th c12) fun v13 c14 =>
      cl (f_X9_values th c14) fun _ c15 =>
      cl (f_X9_putBack th c15) fun _ c17 =>
      gd (R32 v13) <|
      bq (v13 = 0) (
        some (3, c17)) (
        some (0, c17))))
noncomputable def f_X9_solvedNumerator (th : Nat) (p1 : Int) (p2 : Int) (c : W0) : Option (Int × W0) :=
  cl (f_X9_errorOfSolved th p1 p2 c) fun v1 c2 =>
  cl (f_X9_holds th v1 c2) fun v3 c4 =>
  gd (R32 v3) <|
  bq (v3 = 0) (
    some (0, c4)) (
    some ((c4 th 16), c4))
noncomputable def f_X9_solvedDenominator (th : Nat) (p1 : Int) (p2 : Int) (c : W0) : Option (Int × W0) :=
  cl (f_X9_errorOfSolved th p1 p2 c) fun v1 c2 =>
  cl (f_X9_holds th v1 c2) fun v3 c4 =>
  gd (R32 v3) <|
  bq (v3 = 0) (
    some (0, c4)) (
    some ((c4 th 17), c4))
noncomputable def f_X9_takesIn (th : Nat) (p1 : Int) (c : W0) : Option (Int × W0) :=
  sto c th 27 ((31 * (c th 27)) + p1) fun c1 =>
  some (0, c1)
noncomputable def f_X9_takesFraction (th : Nat) (c : W0) : Option (Int × W0) :=
  cl (f_X9_takesIn th (c th 16) c) fun _ c1 =>
  cl (f_X9_takesIn th (c1 th 17) c1) fun _ c3 =>
  some (0, c3)
noncomputable def b_X9_bitsOf_15  (κ : UInt64 → Int → Option Int) (rec : UInt64 → Int → Option Int) (l2 : UInt64) (l4 : Int) : Option Int :=
  bq ((Op.cmpValue (FP.dcmp l2 (4611686018427387904 : UInt64)) .l) < 0) (
    κ l2 l4) (
    gd (vf_n64 (FP.ddiv l2 (4611686018427387904 : UInt64))) <|
    rec (FP.ddiv l2 (4611686018427387904 : UInt64)) (l4 + 1))
noncomputable def f_X9_bitsOf_15  (κ : UInt64 → Int → Option Int) : Nat → UInt64 → Int → Option Int
  | 0, _, _ => none
  | n + 1, l2, l4 => b_X9_bitsOf_15  κ (f_X9_bitsOf_15  κ n) l2 l4
theorem f_X9_bitsOf_15_s  {κ : UInt64 → Int → Option Int} {n : Nat} {l2 : UInt64} {l4 : Int} : f_X9_bitsOf_15  κ (n + 1) l2 l4 = b_X9_bitsOf_15  κ (f_X9_bitsOf_15  κ n) l2 l4 := rfl
noncomputable def b_X9_bitsOf_38  (κ : UInt64 → Int → Option Int) (rec : UInt64 → Int → Option Int) (l2 : UInt64) (l4 : Int) : Option Int :=
  bq ((Op.cmpValue (FP.dcmp l2 FP.dconst1) .g) < 0) (
    gd (vf_n64 (FP.dmul l2 (4611686018427387904 : UInt64))) <|
    rec (FP.dmul l2 (4611686018427387904 : UInt64)) (l4 - 1)) (
    κ l2 l4)
noncomputable def f_X9_bitsOf_38  (κ : UInt64 → Int → Option Int) : Nat → UInt64 → Int → Option Int
  | 0, _, _ => none
  | n + 1, l2, l4 => b_X9_bitsOf_38  κ (f_X9_bitsOf_38  κ n) l2 l4
theorem f_X9_bitsOf_38_s  {κ : UInt64 → Int → Option Int} {n : Nat} {l2 : UInt64} {l4 : Int} : f_X9_bitsOf_38  κ (n + 1) l2 l4 = b_X9_bitsOf_38  κ (f_X9_bitsOf_38  κ n) l2 l4 := rfl
noncomputable def f_X9_bitsOf (p1 : UInt64) : Option Int :=
  bq ((Op.cmpValue (FP.dcmp p1 FP.dconst0) .l) = 0) (
    some 0) (
    f_X9_bitsOf_15  (fun v1 v2 =>
        f_X9_bitsOf_38  (fun v3 v4 =>
            gd (vf_n64 (FP.dsub v3 FP.dconst1)) <|
            gd (vf_n64 (FP.dmul (FP.dsub v3 FP.dconst1) (4841369599423283200 : UInt64))) <|
            some ((lshlZ v4 52) + (FP.d2l (FP.dmul (FP.dsub v3 FP.dconst1) (4841369599423283200 : UInt64))).toInt)) LF v1 v2) LF p1 1023)
noncomputable def b_X9_takesConstraint_2 (th : Nat) (p1 : Int) (κ : W0 → Option (Int × W0)) (rec : Int → W0 → Option (Int × W0)) (l2 : Int) (c : W0) : Option (Int × W0) :=
  gd (R32 l2 ∧ R32 (c (th + 1) 0)) <|
  bq ((c (th + 1) 0) ≤ l2) (
    κ c) (
    gd (0 ≤ ((6 + (4 * p1)) + l2) ∧ ((6 + (4 * p1)) + l2) < 34) <|
    gd (R32 (c (th + 1) ((6 + (4 * p1)) + l2))) <|
    cl (f_X9_takesIn th (c (th + 1) ((6 + (4 * p1)) + l2)) c) fun _ c1 =>
    rec (l2 + 1) c1)
noncomputable def f_X9_takesConstraint_2 (th : Nat) (p1 : Int) (κ : W0 → Option (Int × W0)) : Nat → Int → W0 → Option (Int × W0)
  | 0, _, _ => none
  | n + 1, l2, c => b_X9_takesConstraint_2 th p1 κ (f_X9_takesConstraint_2 th p1 κ n) l2 c
theorem f_X9_takesConstraint_2_s {th : Nat} {p1 : Int} {κ : W0 → Option (Int × W0)} {n : Nat} {l2 : Int} {c : W0} : f_X9_takesConstraint_2 th p1 κ (n + 1) l2 c = b_X9_takesConstraint_2 th p1 κ (f_X9_takesConstraint_2 th p1 κ n) l2 c := rfl
noncomputable def f_X9_takesConstraint (th : Nat) (p1 : Int) (c : W0) : Option (Int × W0) :=
  f_X9_takesConstraint_2 th p1 (fun c1 =>
      gd (0 ≤ (22 + p1) ∧ (22 + p1) < 34) <|
      gd (R32 (c1 (th + 1) (22 + p1))) <|
      cl (f_X9_takesIn th (c1 (th + 1) (22 + p1)) c1) fun _ c2 =>
      cl (f_X9_dualOf th p1 c2) fun _ c4 =>
      cl (f_X9_takesFraction th c4) fun _ c6 =>
      cl (f_X9_takesFraction th c6) fun _ c8 =>
      cl (f_X9_outer th p1 1 c8) fun v10 c11 =>
      gd (R32 v10) <|
      cl (f_X9_takesIn th v10 c11) fun _ c12 =>
      cl (f_X9_outer th p1 0 c12) fun v14 c15 =>
      gd (R32 v14) <|
      cl (f_X9_takesIn th v14 c15) fun _ c16 =>
      some (0, c16)) LF 0 c
noncomputable def b_X9_digest_209 (th : Nat) (l1 : Int) (l2 : Int) (l3 : UInt64) (κ : W0 → Option (Int × W0)) (rec : Int → W0 → Option (Int × W0)) (l5 : Int) (c : W0) : Option (Int × W0) :=
  gd (R32 l5 ∧ R32 (c (th + 1) 0)) <|
  bq ((c (th + 1) 0) ≤ l5) (
    κ c) (
    gd (0 ≤ (2 + l5) ∧ (2 + l5) < 34) <|
    gd (R32 (c (th + 1) (2 + l5))) <|
    cl (f_X9_takesIn th (c (th + 1) (2 + l5)) c) fun _ c1 =>
    rec (l5 + 1) c1)
noncomputable def f_X9_digest_209 (th : Nat) (l1 : Int) (l2 : Int) (l3 : UInt64) (κ : W0 → Option (Int × W0)) : Nat → Int → W0 → Option (Int × W0)
  | 0, _, _ => none
  | n + 1, l5, c => b_X9_digest_209 th l1 l2 l3 κ (f_X9_digest_209 th l1 l2 l3 κ n) l5 c
theorem f_X9_digest_209_s {th : Nat} {l1 : Int} {l2 : Int} {l3 : UInt64} {κ : W0 → Option (Int × W0)} {n : Nat} {l5 : Int} {c : W0} : f_X9_digest_209 th l1 l2 l3 κ (n + 1) l5 c = b_X9_digest_209 th l1 l2 l3 κ (f_X9_digest_209 th l1 l2 l3 κ n) l5 c := rfl
noncomputable def b_X9_digest_243 (th : Nat) (l1 : Int) (l2 : Int) (l3 : UInt64) (κ : W0 → Option (Int × W0)) (rec : Int → W0 → Option (Int × W0)) (l5 : Int) (c : W0) : Option (Int × W0) :=
  gd (R32 l5 ∧ R32 (c (th + 1) 1)) <|
  bq ((c (th + 1) 1) ≤ l5) (
    κ c) (
    cl (f_X9_takesConstraint th l5 c) fun _ c1 =>
    rec (l5 + 1) c1)
noncomputable def f_X9_digest_243 (th : Nat) (l1 : Int) (l2 : Int) (l3 : UInt64) (κ : W0 → Option (Int × W0)) : Nat → Int → W0 → Option (Int × W0)
  | 0, _, _ => none
  | n + 1, l5, c => b_X9_digest_243 th l1 l2 l3 κ (f_X9_digest_243 th l1 l2 l3 κ n) l5 c
theorem f_X9_digest_243_s {th : Nat} {l1 : Int} {l2 : Int} {l3 : UInt64} {κ : W0 → Option (Int × W0)} {n : Nat} {l5 : Int} {c : W0} : f_X9_digest_243 th l1 l2 l3 κ (n + 1) l5 c = b_X9_digest_243 th l1 l2 l3 κ (f_X9_digest_243 th l1 l2 l3 κ n) l5 c := rfl
noncomputable def b_X9_digest_269 (th : Nat) (l1 : Int) (l2 : Int) (l3 : UInt64) (κ : W0 → Option (Int × W0)) (rec : Int → W0 → Option (Int × W0)) (l5 : Int) (c : W0) : Option (Int × W0) :=
  cv (f_X9_columns th c) fun v1 =>
  gd (R32 l5 ∧ R32 v1) <|
  bq (v1 ≤ l5) (
    κ c) (
    cv (f_X9_isIn th l5 c) fun v2 =>
    gd (R32 v2) <|
    jn (fun (v4 : Int) =>
        cl (f_X9_takesIn th v4 c) fun _ c5 =>
        cl (f_X9_reducedOf th l5 c5) fun _ c7 =>
        cl (f_X9_takesFraction th c7) fun _ c9 =>
        cl (f_X9_givenTo th l5 c9) fun _ c11 =>
        cl (f_X9_takesFraction th c11) fun _ c13 =>
        rec (l5 + 1) c13) fun k3 =>
    bq (v2 = 0) (
      k3 0) (
      k3 1))
noncomputable def f_X9_digest_269 (th : Nat) (l1 : Int) (l2 : Int) (l3 : UInt64) (κ : W0 → Option (Int × W0)) : Nat → Int → W0 → Option (Int × W0)
  | 0, _, _ => none
  | n + 1, l5, c => b_X9_digest_269 th l1 l2 l3 κ (f_X9_digest_269 th l1 l2 l3 κ n) l5 c
theorem f_X9_digest_269_s {th : Nat} {l1 : Int} {l2 : Int} {l3 : UInt64} {κ : W0 → Option (Int × W0)} {n : Nat} {l5 : Int} {c : W0} : f_X9_digest_269 th l1 l2 l3 κ (n + 1) l5 c = b_X9_digest_269 th l1 l2 l3 κ (f_X9_digest_269 th l1 l2 l3 κ n) l5 c := rfl
noncomputable def b_X9_digest_355 (th : Nat) (l1 : Int) (l2 : Int) (l3 : UInt64) (l5 : Int) (κ : W0 → Option (Int × W0)) (rec : Int → W0 → Option (Int × W0)) (l6 : Int) (c : W0) : Option (Int × W0) :=
  cv (f_X9_columns th c) fun v1 =>
  gd (R32 l6 ∧ R32 v1) <|
  bq (v1 ≤ l6) (
    κ c) (
    gd (0 ≤ ((9 * l5) + l6) ∧ ((9 * l5) + l6) < 36) <|
    cl (f_X9_takesIn th (c (th + 6) ((9 * l5) + l6)) c) fun _ c2 =>
    gd (0 ≤ ((9 * l5) + l6) ∧ ((9 * l5) + l6) < 36) <|
    cl (f_X9_takesIn th (c2 (th + 7) ((9 * l5) + l6)) c2) fun _ c4 =>
    rec (l6 + 1) c4)
noncomputable def f_X9_digest_355 (th : Nat) (l1 : Int) (l2 : Int) (l3 : UInt64) (l5 : Int) (κ : W0 → Option (Int × W0)) : Nat → Int → W0 → Option (Int × W0)
  | 0, _, _ => none
  | n + 1, l6, c => b_X9_digest_355 th l1 l2 l3 l5 κ (f_X9_digest_355 th l1 l2 l3 l5 κ n) l6 c
theorem f_X9_digest_355_s {th : Nat} {l1 : Int} {l2 : Int} {l3 : UInt64} {l5 : Int} {κ : W0 → Option (Int × W0)} {n : Nat} {l6 : Int} {c : W0} : f_X9_digest_355 th l1 l2 l3 l5 κ (n + 1) l6 c = b_X9_digest_355 th l1 l2 l3 l5 κ (f_X9_digest_355 th l1 l2 l3 l5 κ n) l6 c := rfl
noncomputable def b_X9_digest_329 (th : Nat) (l1 : Int) (l2 : Int) (l3 : UInt64) (κ : W0 → Option (Int × W0)) (rec : Int → W0 → Option (Int × W0)) (l5 : Int) (c : W0) : Option (Int × W0) :=
  gd (R32 l5 ∧ R32 (c (th + 1) 1)) <|
  bq ((c (th + 1) 1) ≤ l5) (
    κ c) (
    gd (0 ≤ l5 ∧ l5 < 4) <|
    gd (R32 (c (th + 8) l5)) <|
    cl (f_X9_takesIn th (c (th + 8) l5) c) fun _ c1 =>
    f_X9_digest_355 th l1 l2 l3 l5 (fun c3 =>
        rec (l5 + 1) c3) LF 0 c1)
noncomputable def f_X9_digest_329 (th : Nat) (l1 : Int) (l2 : Int) (l3 : UInt64) (κ : W0 → Option (Int × W0)) : Nat → Int → W0 → Option (Int × W0)
  | 0, _, _ => none
  | n + 1, l5, c => b_X9_digest_329 th l1 l2 l3 κ (f_X9_digest_329 th l1 l2 l3 κ n) l5 c
theorem f_X9_digest_329_s {th : Nat} {l1 : Int} {l2 : Int} {l3 : UInt64} {κ : W0 → Option (Int × W0)} {n : Nat} {l5 : Int} {c : W0} : f_X9_digest_329 th l1 l2 l3 κ (n + 1) l5 c = b_X9_digest_329 th l1 l2 l3 κ (f_X9_digest_329 th l1 l2 l3 κ n) l5 c := rfl
noncomputable def b_X9_digest_471 (th : Nat) (κ : W0 → Option (Int × W0)) (rec : Int → W0 → Option (Int × W0)) (l5 : Int) (c : W0) : Option (Int × W0) :=
  gd (R32 l5 ∧ R32 (c th 8)) <|
  bq ((c th 8) ≤ l5) (
    κ c) (
    gd (0 ≤ l5 ∧ l5 < 60) <|
    gd (R32 (c (th + 5) l5)) <|
    cl (f_X9_takesIn th (c (th + 5) l5) c) fun _ c1 =>
    rec (l5 + 1) c1)
noncomputable def f_X9_digest_471 (th : Nat) (κ : W0 → Option (Int × W0)) : Nat → Int → W0 → Option (Int × W0)
  | 0, _, _ => none
  | n + 1, l5, c => b_X9_digest_471 th κ (f_X9_digest_471 th κ n) l5 c
theorem f_X9_digest_471_s {th : Nat} {κ : W0 → Option (Int × W0)} {n : Nat} {l5 : Int} {c : W0} : f_X9_digest_471 th κ (n + 1) l5 c = b_X9_digest_471 th κ (f_X9_digest_471 th κ n) l5 c := rfl
noncomputable def f_X9_digest (th : Nat) (c : W0) : Option (Int × W0) :=
  sto c th 0 0 fun c1 =>
  sto c1 th 27 4339 fun c2 =>
  gd (R32 (c2 (th + 1) 0)) <|
  cl (f_X9_takesIn th (c2 (th + 1) 0) c2) fun _ c3 =>
  gd (R32 (c3 (th + 1) 1)) <|
  cl (f_X9_takesIn th (c3 (th + 1) 1) c3) fun _ c5 =>
  gd (R32 (c5 (th + 1) 26)) <|
  cl (f_X9_takesIn th (c5 (th + 1) 26) c5) fun _ c7 =>
  cl (f_X9_laysNow th c7) fun _ c9 =>
  cl (f_X9_isBest th c9) fun v11 c12 =>
  cl (f_X9_endless th c12) fun v13 c14 =>
  gd (R32 v11) <|
  jn (fun (v16 : Int) =>
      cl (f_X9_takesIn th v16 c14) fun _ c17 =>
      gd (R32 v13) <|
      jn (fun (v20 : Int) =>
          cl (f_X9_takesIn th v20 c17) fun _ c21 =>
          gd (R32 (c21 (th + 1) 31)) <|
          cl (f_X9_takesIn th (c21 (th + 1) 31) c21) fun _ c23 =>
          gd (R32 (c23 (th + 1) 32)) <|
          cl (f_X9_takesIn th (c23 (th + 1) 32) c23) fun _ c25 =>
          gd (R32 (c25 (th + 1) 33)) <|
          cl (f_X9_takesIn th (c25 (th + 1) 33) c25) fun _ c27 =>
          cl (f_X9_valueNow th c27) fun _ c29 =>
          gd (vf_n64 (FP.ddiv (FP.l2d (i64 (c29 th 16))) (FP.l2d (i64 (c29 th 17))))) <|
          cl (f_X9_takesFraction th c29) fun _ c31 =>
          cl (f_X9_dualValue th c31) fun _ c33 =>
          cl (f_X9_takesFraction th c33) fun _ c35 =>
          cl (f_X9_looksAtBases th c35) fun _ c37 =>
          gd (R32 (c37 th 23)) <|
          cl (f_X9_takesIn th (c37 th 23) c37) fun _ c39 =>
          gd (R32 (c39 th 24)) <|
          cl (f_X9_takesIn th (c39 th 24) c39) fun _ c41 =>
          cl (f_X9_takesIn th (c41 th 25) c41) fun _ c43 =>
          cl (f_X9_takesIn th (c43 th 26) c43) fun _ c45 =>
          cl (f_X9_leftPivots th c45) fun v47 c48 =>
          gd (R32 v47) <|
          cl (f_X9_takesIn th v47 c48) fun _ c49 =>
          gd (R32 (c49 th 4)) <|
          cl (f_X9_takesIn th (c49 th 4) c49) fun _ c51 =>
          f_X9_digest_209 th v11 v13 (FP.ddiv (FP.l2d (i64 (c29 th 16))) (FP.l2d (i64 (c29 th 17)))) (fun c53 =>
              f_X9_digest_243 th v11 v13 (FP.ddiv (FP.l2d (i64 (c29 th 16))) (FP.l2d (i64 (c29 th 17)))) (fun c54 =>
                  f_X9_digest_269 th v11 v13 (FP.ddiv (FP.l2d (i64 (c29 th 16))) (FP.l2d (i64 (c29 th 17)))) (fun c55 =>
                      cl (f_X9_laysNow th c55) fun _ c56 =>
                      f_X9_digest_329 th v11 v13 (FP.ddiv (FP.l2d (i64 (c29 th 16))) (FP.l2d (i64 (c29 th 17)))) (fun c58 =>
                          gd (R32 v13) <|
                          jn (fun (c60 : W0) =>
                              cv (f_X9_bitsOf (FP.ddiv (FP.l2d (i64 (c29 th 16))) (FP.l2d (i64 (c29 th 17))))) fun v61 =>
                              cl (f_X9_takesIn th v61 c60) fun _ c62 =>
                              gd (R32 (c62 th 8)) <|
                              cl (f_X9_takesIn th (c62 th 8) c62) fun _ c64 =>
                              f_X9_digest_471 th (fun c66 =>
                                  some ((c66 th 27), c66)) LF 0 c64) fun k59 =>
                          bq (v13 < 0) (
                            gd (R32 v11) <|
                            bq (v11 = 0) (
                              cl (f_X9_bestColumn th c58) fun v67 c68 =>
                              gd (R32 v67) <|
                              cl (f_X9_takesIn th v67 c68) fun _ c69 =>
                              cv (f_X9_leastRow th v67 c69) fun v71 =>
                              gd (R32 v71) <|
                              cl (f_X9_takesIn th v71 c69) fun _ c72 =>
                              k59 c72) (
                              k59 c58)) (
                            gd (R32 v13) <|
                            cl (f_X9_takesIn th v13 c58) fun _ c74 =>
                            k59 c74)) LF 0 c56) LF 0 c54) LF 0 c53) LF 0 c51) fun k19 =>
      bq (v13 < 0) (
        k19 0) (
        k19 1)) fun k15 =>
  bq (v11 = 0) (
    k15 0) (
    k15 1)
end FF
