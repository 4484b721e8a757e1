section NF
noncomputable def f_L_low (p1 : Int) (p2 : Int) : Option Int :=
  gd (¬ p2 = 0 ∧ R32 (iandZ p1 2147483647) ∧ R32 p2) <|
  some (Int.tmod (iandZ p1 2147483647) p2)
noncomputable def f_L_act (p1 : Nat) (p2 : Int) (p3 : Nat) (c : W0) : Option (Int × W0) :=
  cv (f_L_low (ishrZ p2 22) 9) fun v1 =>
  gd (R32 v1) <|
  jn (fun (v3 : Int) =>
      cv (f_L_low p2 30) fun v4 =>
      cv (f_X8_constraints p1 c) fun v5 =>
      gd (R32 v3) <|
      jn (fun (u7 : Unit) =>
          cv (f_L_low (ishrZ p2 5) (v5 + 1)) fun v8 =>
          cv (f_X8_variables p1 c) fun v9 =>
          gd (R32 v3) <|
          jn (fun (v11 : Int) =>
              cv (f_L_low (ishrZ (ishrZ p2 5) 3) (v9 + v11)) fun v12 =>
              gd (R32 v4) <|
              bq (4 ≤ v4) (
                gd (R32 v4) <|
                bq (8 ≤ v4) (
                  gd (R32 v4) <|
                  bq (16 ≤ v4) (
                    gd (R32 v4) <|
                    bq (20 ≤ v4) (
                      gd (R32 v4) <|
                      bq (24 ≤ v4) (
                        gd (R32 v4) <|
                        bq (28 ≤ v4) (
                          gd (R32 v4) <|
                          jn (fun (v14 : Int) =>
                              cl (f_L_changes p1 v14 0 0 0 p3 c) fun v15 c16 =>
                              some ((v15 : Int), c16)) fun k13 =>
                          bq (v4 = 28) (
                            k13 8) (
                            k13 10)) (
                          cl (f_L_changes p1 7 0 0 0 p3 c) fun v17 c18 =>
                          some ((v17 : Int), c18))) (
                        cv (f_X8_variables p1 c) fun v19 =>
                        cv (f_X8_constraints p1 c) fun v20 =>
                        gd (R32 v3) <|
                        jn (fun (v22 : Int) =>
                            cv (f_L_low (ishrZ (ishrZ p2 5) 3) ((v19 + v20) + v22)) fun v23 =>
                            cl (f_L_changes p1 6 v8 v23 0 p3 c) fun v24 c25 =>
                            some ((v24 : Int), c25)) fun k21 =>
                        bq (v3 = 0) (
                          k21 1) (
                          k21 0))) (
                      gd (R32 v4) <|
                      bq (v4 = 16) (
                        cv (f_L_low (ishrZ p2 5) 5) fun v38 =>
                        gd (R32 v3) <|
                        jn (fun (v40 : Int) =>
                            cv (f_L_low (ishrZ p2 5) 5) fun v41 =>
                            gd (R32 v41) <|
                            cl (f_L_changes p1 0 ((v38 + v40) - (Int.tdiv v41 4)) 0 0 p3 c) fun v42 c43 =>
                            some ((v42 : Int), c43)) fun k39 =>
                        bq (v3 = 0) (
                          k39 0) (
                          k39 1)) (
                        gd (R32 v4) <|
                        bq (v4 = 17) (
                          gd (R32 v3) <|
                          jn (fun (v34 : Int) =>
                              cv (f_L_low (ishrZ (ishrZ p2 5) 3) v34) fun v35 =>
                              cl (f_L_changes p1 4 v8 v35 0 p3 c) fun v36 c37 =>
                              some ((v36 : Int), c37)) fun k33 =>
                          bq (v3 = 0) (
                            k33 120) (
                            k33 100)) (
                          gd (R32 v4) <|
                          bq (v4 = 18) (
                            cl (f_L_changes p1 5 v8 0 0 p3 c) fun v31 c32 =>
                            some ((v31 : Int), c32)) (
                            gd (R32 v3) <|
                            jn (fun (v27 : Int) =>
                                cv (f_L_low (ishrZ p2 5) v27) fun v28 =>
                                cl (f_L_changes p1 9 v28 0 0 p3 c) fun v29 c30 =>
                                some ((v29 : Int), c30)) fun k26 =>
                            bq (v3 = 0) (
                              k26 5) (
                              k26 3)))))) (
                    gd (R32 v3) <|
                    jn (fun (v45 : Int) =>
                        cv (f_L_low (ishrZ (ishrZ p2 5) 6) v45) fun v46 =>
                        cl (f_L_changes p1 3 v8 v12 (v46 - 5) p3 c) fun v47 c48 =>
                        some ((v47 : Int), c48)) fun k44 =>
                    bq (v3 = 0) (
                      k44 30) (
                      k44 14))) (
                  gd (R32 v3) <|
                  jn (fun (v50 : Int) =>
                      cv (f_L_low (ishrZ p2 5) v50) fun v51 =>
                      cl (f_L_changes p1 2 v51 0 0 p3 c) fun v52 c53 =>
                      some ((v52 : Int), c53)) fun k49 =>
                  bq (v3 = 0) (
                    k49 120) (
                    k49 100))) (
                gd (R32 v3) <|
                jn (fun (v55 : Int) =>
                    cv (f_L_low (ishrZ (ishrZ p2 5) 6) v55) fun v56 =>
                    cl (f_L_changes p1 1 v12 (v56 - 3) 0 p3 c) fun v57 c58 =>
                    some ((v57 : Int), c58)) fun k54 =>
                bq (v3 = 0) (
                  k54 30) (
                  k54 13))) fun k10 =>
          bq (v3 = 0) (
            k10 1) (
            k10 0)) fun k6 =>
      bq (v3 = 0) (
        k6 ()) (
        cv (f_X8_constraints p1 c) fun v59 =>
        gd (R32 v59) <|
        bq (v59 ≤ 0) (
          k6 ()) (
          cv (f_L_low (ishrZ p2 5) (v5 + 0)) fun v60 =>
          cv (f_X8_variables p1 c) fun v61 =>
          gd (R32 v3) <|
          jn (fun (v63 : Int) =>
              cv (f_L_low (ishrZ (ishrZ p2 5) 3) (v61 + v63)) fun v64 =>
              gd (R32 v4) <|
              bq (4 ≤ v4) (
                gd (R32 v4) <|
                bq (8 ≤ v4) (
                  gd (R32 v4) <|
                  bq (16 ≤ v4) (
                    gd (R32 v4) <|
                    bq (20 ≤ v4) (
                      gd (R32 v4) <|
                      bq (24 ≤ v4) (
                        gd (R32 v4) <|
                        bq (28 ≤ v4) (
                          gd (R32 v4) <|
                          jn (fun (v66 : Int) =>
                              cl (f_L_changes p1 v66 0 0 0 p3 c) fun v67 c68 =>
                              some ((v67 : Int), c68)) fun k65 =>
                          bq (v4 = 28) (
                            k65 8) (
                            k65 10)) (
                          cl (f_L_changes p1 7 0 0 0 p3 c) fun v69 c70 =>
                          some ((v69 : Int), c70))) (
                        cv (f_X8_variables p1 c) fun v71 =>
                        cv (f_X8_constraints p1 c) fun v72 =>
                        gd (R32 v3) <|
                        jn (fun (v74 : Int) =>
                            cv (f_L_low (ishrZ (ishrZ p2 5) 3) ((v71 + v72) + v74)) fun v75 =>
                            cl (f_L_changes p1 6 v60 v75 0 p3 c) fun v76 c77 =>
                            some ((v76 : Int), c77)) fun k73 =>
                        bq (v3 = 0) (
                          k73 1) (
                          k73 0))) (
                      gd (R32 v4) <|
                      bq (v4 = 16) (
                        cv (f_L_low (ishrZ p2 5) 5) fun v90 =>
                        gd (R32 v3) <|
                        jn (fun (v92 : Int) =>
                            cv (f_L_low (ishrZ p2 5) 5) fun v93 =>
                            gd (R32 v93) <|
                            cl (f_L_changes p1 0 ((v90 + v92) - (Int.tdiv v93 4)) 0 0 p3 c) fun v94 c95 =>
                            some ((v94 : Int), c95)) fun k91 =>
                        bq (v3 = 0) (
                          k91 0) (
                          k91 1)) (
                        gd (R32 v4) <|
                        bq (v4 = 17) (
                          gd (R32 v3) <|
                          jn (fun (v86 : Int) =>
                              cv (f_L_low (ishrZ (ishrZ p2 5) 3) v86) fun v87 =>
                              cl (f_L_changes p1 4 v60 v87 0 p3 c) fun v88 c89 =>
                              some ((v88 : Int), c89)) fun k85 =>
                          bq (v3 = 0) (
                            k85 120) (
                            k85 100)) (
                          gd (R32 v4) <|
                          bq (v4 = 18) (
                            cl (f_L_changes p1 5 v60 0 0 p3 c) fun v83 c84 =>
                            some ((v83 : Int), c84)) (
                            gd (R32 v3) <|
                            jn (fun (v79 : Int) =>
                                cv (f_L_low (ishrZ p2 5) v79) fun v80 =>
                                cl (f_L_changes p1 9 v80 0 0 p3 c) fun v81 c82 =>
                                some ((v81 : Int), c82)) fun k78 =>
                            bq (v3 = 0) (
                              k78 5) (
                              k78 3)))))) (
                    gd (R32 v3) <|
                    jn (fun (v97 : Int) =>
                        cv (f_L_low (ishrZ (ishrZ p2 5) 6) v97) fun v98 =>
                        cl (f_L_changes p1 3 v60 v64 (v98 - 5) p3 c) fun v99 c100 =>
                        some ((v99 : Int), c100)) fun k96 =>
                    bq (v3 = 0) (
                      k96 30) (
                      k96 14))) (
                  gd (R32 v3) <|
                  jn (fun (v102 : Int) =>
                      cv (f_L_low (ishrZ p2 5) v102) fun v103 =>
                      cl (f_L_changes p1 2 v103 0 0 p3 c) fun v104 c105 =>
                      some ((v104 : Int), c105)) fun k101 =>
                  bq (v3 = 0) (
                    k101 120) (
                    k101 100))) (
                gd (R32 v3) <|
                jn (fun (v107 : Int) =>
                    cv (f_L_low (ishrZ (ishrZ p2 5) 6) v107) fun v108 =>
                    cl (f_L_changes p1 1 v64 (v108 - 3) 0 p3 c) fun v109 c110 =>
                    some ((v109 : Int), c110)) fun k106 =>
                bq (v3 = 0) (
                  k106 30) (
                  k106 13))) fun k62 =>
          bq (v3 = 0) (
            k62 1) (
            k62 0)))) fun k2 =>
  bq (v1 ≤ 0) (
    k2 0) (
    k2 1)
noncomputable def b_L_areAlike_74 (p1 : Nat) (p2 : Nat) (κ : Int → W0 → Option (Int × W0)) (rec : Int → Int → W0 → Option (Int × W0)) (l2 : Int) (l3 : Int) (c : W0) : Option (Int × W0) :=
  cv (f_X8_variables p1 c) fun v1 =>
  gd (R32 l3 ∧ R32 v1) <|
  bq (v1 ≤ l3) (
    κ l2 c) (
    gd (R32 l2) <|
    bq (l2 = 0) (
      κ l2 c) (
      cn (f_X8_profitOf p1 l3 c) fun v2 c3 =>
      cn (f_X8_profitOf p2 l3 c3) fun v4 c5 =>
      gd (R32 v2 ∧ R32 v4) <|
      bq (v2 = v4) (
        rec 1 (l3 + 1) c5) (
        rec 0 (l3 + 1) c5)))
noncomputable def f_L_areAlike_74 (p1 : Nat) (p2 : Nat) (κ : Int → W0 → Option (Int × W0)) : Nat → Int → Int → W0 → Option (Int × W0)
  | 0, _, _, _ => none
  | n + 1, l2, l3, c => b_L_areAlike_74 p1 p2 κ (f_L_areAlike_74 p1 p2 κ n) l2 l3 c
theorem f_L_areAlike_74_s {p1 : Nat} {p2 : Nat} {κ : Int → W0 → Option (Int × W0)} {n : Nat} {l2 : Int} {l3 : Int} {c : W0} : f_L_areAlike_74 p1 p2 κ (n + 1) l2 l3 c = b_L_areAlike_74 p1 p2 κ (f_L_areAlike_74 p1 p2 κ n) l2 l3 c := rfl
noncomputable def b_L_areAlike_160 (p1 : Nat) (p2 : Nat) (l3 : Int) (κ : Int → W0 → Option (Int × W0)) (rec : Int → Int → W0 → Option (Int × W0)) (l2 : Int) (l4 : Int) (c : W0) : Option (Int × W0) :=
  cv (f_X8_variables p1 c) fun v1 =>
  gd (R32 l4 ∧ R32 v1) <|
  bq (v1 ≤ l4) (
    κ l2 c) (
    gd (R32 l2) <|
    bq (l2 = 0) (
      rec 0 (l4 + 1) c) (
      cn (f_X8_coefficientOf p1 l3 l4 c) fun v2 c3 =>
      cn (f_X8_coefficientOf p2 l3 l4 c3) fun v4 c5 =>
      gd (R32 v2 ∧ R32 v4) <|
      bq (v2 = v4) (
        rec 1 (l4 + 1) c5) (
        rec 0 (l4 + 1) c5)))
noncomputable def f_L_areAlike_160 (p1 : Nat) (p2 : Nat) (l3 : Int) (κ : Int → W0 → Option (Int × W0)) : Nat → Int → Int → W0 → Option (Int × W0)
  | 0, _, _, _ => none
  | n + 1, l2, l4, c => b_L_areAlike_160 p1 p2 l3 κ (f_L_areAlike_160 p1 p2 l3 κ n) l2 l4 c
theorem f_L_areAlike_160_s {p1 : Nat} {p2 : Nat} {l3 : Int} {κ : Int → W0 → Option (Int × W0)} {n : Nat} {l2 : Int} {l4 : Int} {c : W0} : f_L_areAlike_160 p1 p2 l3 κ (n + 1) l2 l4 c = b_L_areAlike_160 p1 p2 l3 κ (f_L_areAlike_160 p1 p2 l3 κ n) l2 l4 c := rfl
noncomputable def b_L_areAlike_113 (p1 : Nat) (p2 : Nat) (κ : Int → W0 → Option (Int × W0)) (rec : Int → Int → W0 → Option (Int × W0)) (l2 : Int) (l3 : Int) (c : W0) : Option (Int × W0) :=
  cv (f_X8_constraints p1 c) fun v1 =>
  gd (R32 l3 ∧ R32 v1) <|
  bq (v1 ≤ l3) (
    κ l2 c) (
    gd (R32 l2) <|
    bq (l2 = 0) (
      κ l2 c) (
      cn (f_X8_boundOf p1 l3 c) fun v2 c3 =>
      cn (f_X8_boundOf p2 l3 c3) fun v4 c5 =>
      gd (R32 v2 ∧ R32 v4) <|
      jn (fun (c7 : W0) =>
          f_L_areAlike_160 p1 p2 l3 (fun v8 c9 =>
              rec v8 (l3 + 1) c9) LF 0 0 c7) fun k6 =>
      bq (v2 = v4) (
        cn (f_X8_columnOf p1 l3 c5) fun v10 c11 =>
        cn (f_X8_columnOf p2 l3 c11) fun v12 c13 =>
        gd (R32 v10 ∧ R32 v12) <|
        bq (v10 = v12) (
          f_L_areAlike_160 p1 p2 l3 (fun v14 c15 =>
              rec v14 (l3 + 1) c15) LF 1 0 c13) (
          k6 c13)) (
        k6 c5)))
noncomputable def f_L_areAlike_113 (p1 : Nat) (p2 : Nat) (κ : Int → W0 → Option (Int × W0)) : Nat → Int → Int → W0 → Option (Int × W0)
  | 0, _, _, _ => none
  | n + 1, l2, l3, c => b_L_areAlike_113 p1 p2 κ (f_L_areAlike_113 p1 p2 κ n) l2 l3 c
theorem f_L_areAlike_113_s {p1 : Nat} {p2 : Nat} {κ : Int → W0 → Option (Int × W0)} {n : Nat} {l2 : Int} {l3 : Int} {c : W0} : f_L_areAlike_113 p1 p2 κ (n + 1) l2 l3 c = b_L_areAlike_113 p1 p2 κ (f_L_areAlike_113 p1 p2 κ n) l2 l3 c := rfl
noncomputable def f_L_areAlike (p1 : Nat) (p2 : Nat) (c : W0) : Option (Int × W0) :=
  cv (f_X8_variables p1 c) fun v1 =>
  cv (f_X8_variables p2 c) fun v2 =>
  gd (R32 v1 ∧ R32 v2) <|
  jn (fun (u4 : Unit) =>
      f_L_areAlike_74 p1 p2 (fun v5 c6 =>
          f_L_areAlike_113 p1 p2 (fun v7 c8 =>
              gd (0 ≤ v7 ∧ v7 ≤ 1) <|
              some ((v7 : Int), c8)) LF v5 0 c6) LF 0 0 c) fun k3 =>
  bq (v1 = v2) (
    cv (f_X8_constraints p1 c) fun v9 =>
    cv (f_X8_constraints p2 c) fun v10 =>
    gd (R32 v9 ∧ R32 v10) <|
    bq (v9 = v10) (
      cv (f_X8_rule p1 c) fun v11 =>
      cv (f_X8_rule p2 c) fun v12 =>
      gd (R32 v11 ∧ R32 v12) <|
      bq (v11 = v12) (
        cv (f_X8_pivots p1 c) fun v13 =>
        cv (f_X8_pivots p2 c) fun v14 =>
        gd (R32 v13 ∧ R32 v14) <|
        bq (v13 = v14) (
          cv (f_X8_allPivots p1 c) fun v15 =>
          cv (f_X8_allPivots p2 c) fun v16 =>
          gd (R32 v15 ∧ R32 v16) <|
          bq (v15 = v16) (
            cv (f_X8_idlePivots p1 c) fun v17 =>
            cv (f_X8_idlePivots p2 c) fun v18 =>
            gd (R32 v17 ∧ R32 v18) <|
            bq (v17 = v18) (
              f_L_areAlike_74 p1 p2 (fun v19 c20 =>
                  f_L_areAlike_113 p1 p2 (fun v21 c22 =>
                      gd (0 ≤ v21 ∧ v21 ≤ 1) <|
                      some ((v21 : Int), c22)) LF v19 0 c20) LF 1 0 c) (
              k3 ())) (
            k3 ())) (
          k3 ())) (
        k3 ())) (
      k3 ())) (
    k3 ())
noncomputable def b_L_divisor_17  (κ : Int → Option Int) (rec : Int → Int → Option Int) (l4 : Int) (l6 : Int) : Option Int :=
  gd (R64 l6) <|
  bq (l6 ≤ 0) (
    κ l4) (
    gd (¬ l6 = 0 ∧ R64 l4 ∧ R64 l6) <|
    rec l6 (Int.tmod l4 l6))
noncomputable def f_L_divisor_17  (κ : Int → Option Int) : Nat → Int → Int → Option Int
  | 0, _, _ => none
  | n + 1, l4, l6 => b_L_divisor_17  κ (f_L_divisor_17  κ n) l4 l6
theorem f_L_divisor_17_s  {κ : Int → Option Int} {n : Nat} {l4 : Int} {l6 : Int} : f_L_divisor_17  κ (n + 1) l4 l6 = b_L_divisor_17  κ (f_L_divisor_17  κ n) l4 l6 := rfl
noncomputable def f_L_divisor (p1 : Int) (p2 : Int) : Option Int :=
  gd (R64 p1) <|
  jn (fun (v2 : Int) =>
      f_L_divisor_17  (fun v3 =>
          some v3) LF v2 p2) fun k1 =>
  bq (0 ≤ p1) (
    k1 p1) (
    k1 (-p1))
noncomputable def b_L_isSolutionSo_32 (p1 : Nat) (l1 : Int) (l7 : Int) (κ : Int → Int → Int → W0 → Option (Int × W0)) (rec : Int → Int → Int → Int → W0 → Option (Int × W0)) (l2 : Int) (l3 : Int) (l5 : Int) (l8 : Int) (c : W0) : Option (Int × W0) :=
  gd (R32 l8 ∧ R32 l1) <|
  bq (l1 ≤ l8) (
    κ l2 l3 l5 c) (
    gd (R32 l7) <|
    jn (fun (v2 : Int) (c3 : W0) =>
        cn (f_X8_givenDenominator p1 l8 c3) fun v4 c5 =>
        gd (R32 v2) <|
        cn (f_X8_givenNumerator p1 l8 c5) fun v6 c7 =>
        cv (f_L_divisor ((l3 * v4) + ((v2 * v6) * l5)) (l5 * v4)) fun v8 =>
        gd (¬ v8 = 0 ∧ R64 ((l3 * v4) + ((v2 * v6) * l5)) ∧ R64 v8) <|
        gd (¬ v8 = 0 ∧ R64 (l5 * v4) ∧ R64 v8) <|
        gd (R32 l2) <|
        bq (l2 = 0) (
          rec 0 (Int.tdiv ((l3 * v4) + ((v2 * v6) * l5)) v8) (Int.tdiv (l5 * v4) v8) (l8 + 1) c7) (
          cn (f_X8_givenNumerator p1 l8 c7) fun v9 c10 =>
          gd (R64 v9) <|
          bq (v9 < 0) (
            rec 0 (Int.tdiv ((l3 * v4) + ((v2 * v6) * l5)) v8) (Int.tdiv (l5 * v4) v8) (l8 + 1) c10) (
            gd (R64 v4) <|
            bq (v4 ≤ 0) (
              rec 0 (Int.tdiv ((l3 * v4) + ((v2 * v6) * l5)) v8) (Int.tdiv (l5 * v4) v8) (l8 + 1) c10) (
              cn (f_X8_givenNumerator p1 l8 c10) fun v11 c12 =>
              cv (f_L_divisor v11 v4) fun v13 =>
              gd (R64 v13) <|
              bq (v13 = 1) (
                rec 1 (Int.tdiv ((l3 * v4) + ((v2 * v6) * l5)) v8) (Int.tdiv (l5 * v4) v8) (l8 + 1) c12) (
                rec 0 (Int.tdiv ((l3 * v4) + ((v2 * v6) * l5)) v8) (Int.tdiv (l5 * v4) v8) (l8 + 1) c12))))) fun k1 =>
    bq (0 ≤ l7) (
      cn (f_X8_coefficientOf p1 l7 l8 c) fun v14 c15 =>
      k1 v14 c15) (
      cn (f_X8_profitOf p1 l8 c) fun v16 c17 =>
      k1 v16 c17))
noncomputable def f_L_isSolutionSo_32 (p1 : Nat) (l1 : Int) (l7 : Int) (κ : Int → Int → Int → W0 → Option (Int × W0)) : Nat → Int → Int → Int → Int → W0 → Option (Int × W0)
  | 0, _, _, _, _, _ => none
  | n + 1, l2, l3, l5, l8, c => b_L_isSolutionSo_32 p1 l1 l7 κ (f_L_isSolutionSo_32 p1 l1 l7 κ n) l2 l3 l5 l8 c
theorem f_L_isSolutionSo_32_s {p1 : Nat} {l1 : Int} {l7 : Int} {κ : Int → Int → Int → W0 → Option (Int × W0)} {n : Nat} {l2 : Int} {l3 : Int} {l5 : Int} {l8 : Int} {c : W0} : f_L_isSolutionSo_32 p1 l1 l7 κ (n + 1) l2 l3 l5 l8 c = b_L_isSolutionSo_32 p1 l1 l7 κ (f_L_isSolutionSo_32 p1 l1 l7 κ n) l2 l3 l5 l8 c := rfl
noncomputable def b_L_isSolutionSo_15 (p1 : Nat) (l1 : Int) (κ : Int → W0 → Option (Int × W0)) (rec : Int → Int → W0 → Option (Int × W0)) (l2 : Int) (l7 : Int) (c : W0) : Option (Int × W0) :=
  cv (f_X8_constraints p1 c) fun v1 =>
  gd (R32 l7 ∧ R32 v1) <|
  bq (v1 ≤ l7) (
    κ l2 c) (
    f_L_isSolutionSo_32 p1 l1 l7 (fun v2 v3 v4 c5 =>
        gd (R32 v2) <|
        bq (v2 = 0) (
          rec 0 (l7 + 1) c5) (
          gd (R32 l7) <|
          jn (fun (c7 : W0) =>
              rec 1 (l7 + 1) c7) fun k6 =>
          bq (0 ≤ l7) (
            cn (f_X8_boundOf p1 l7 c5) fun v8 c9 =>
            gd (R32 v8) <|
            cn (f_X8_givenDenominator p1 (l1 + l7) c9) fun v10 c11 =>
            cn (f_X8_givenNumerator p1 (l1 + l7) c11) fun v12 c13 =>
            gd (R64 (((v8 * v4) - v3) * v10) ∧ R64 (v12 * v4)) <|
            bq ((((v8 * v4) - v3) * v10) = (v12 * v4)) (
              cn (f_X8_givenNumerator p1 (l1 + l7) c13) fun v14 c15 =>
              gd (R64 v14) <|
              bq (v14 < 0) (
                rec 0 (l7 + 1) c15) (
                k6 c15)) (
              rec 0 (l7 + 1) c13)) (
            cv (f_X8_valueNumerator p1 c5) fun v16 =>
            gd (R64 v3 ∧ R64 v16) <|
            bq (v3 = v16) (
              cv (f_X8_valueDenominator p1 c5) fun v17 =>
              gd (R64 v4 ∧ R64 v17) <|
              bq (v4 = v17) (
                k6 c5) (
                rec 0 (l7 + 1) c5)) (
              rec 0 (l7 + 1) c5)))) LF l2 0 1 0 c)
noncomputable def f_L_isSolutionSo_15 (p1 : Nat) (l1 : Int) (κ : Int → W0 → Option (Int × W0)) : Nat → Int → Int → W0 → Option (Int × W0)
  | 0, _, _, _ => none
  | n + 1, l2, l7, c => b_L_isSolutionSo_15 p1 l1 κ (f_L_isSolutionSo_15 p1 l1 κ n) l2 l7 c
theorem f_L_isSolutionSo_15_s {p1 : Nat} {l1 : Int} {κ : Int → W0 → Option (Int × W0)} {n : Nat} {l2 : Int} {l7 : Int} {c : W0} : f_L_isSolutionSo_15 p1 l1 κ (n + 1) l2 l7 c = b_L_isSolutionSo_15 p1 l1 κ (f_L_isSolutionSo_15 p1 l1 κ n) l2 l7 c := rfl
noncomputable def f_L_isSolutionSo (p1 : Nat) (c : W0) : Option (Int × W0) :=
  cv (f_X8_variables p1 c) fun v1 =>
  f_L_isSolutionSo_15 p1 v1 (fun v2 c3 =>
      gd (R32 v2) <|
      bq (v2 = 0) (
        some ((0 : Int), c3)) (
        cv (f_X8_value p1 c3) fun v4 =>
        cv (f_X8_valueNumerator p1 c3) fun v5 =>
        gd (vf_n64 (FP.dmul (FP.l2d (i64 v5)) FP.dconst1)) <|
        cv (f_X8_valueDenominator p1 c3) fun v6 =>
        gd (vf_n64 (FP.ddiv (FP.dmul (FP.l2d (i64 v5)) FP.dconst1) (FP.l2d (i64 v6)))) <|
        bq ((Op.cmpValue (FP.dcmp v4 (FP.ddiv (FP.dmul (FP.l2d (i64 v5)) FP.dconst1) (FP.l2d (i64 v6)))) .l) = 0) (
          cv (f_X8_valueNumerator p1 c3) fun v7 =>
          gd (R64 v7) <|
          bq (v7 < 0) (
            some ((0 : Int), c3)) (
            some ((1 : Int), c3))) (
          some ((0 : Int), c3)))) LF 1 (-1) c
noncomputable def b_L_areColumnsSo_46 (p1 : Nat) (l1 : Int) (l2 : Int) (l4 : Int) (l5 : Int) (l6 : Int) (l9 : Int) (κ : Int → Int → Int → W0 → Option (Int × W0)) (rec : Int → Int → Int → Int → W0 → Option (Int × W0)) (l3 : Int) (l7 : Int) (l8 : Int) (l11 : Int) (c : W0) : Option (Int × W0) :=
  gd (R32 l11 ∧ R32 l2) <|
  bq (l2 ≤ l11) (
    κ l3 l7 l8 c) (
    cn (f_X8_columnOf p1 l11 c) fun v1 c2 =>
    gd (R32 v1 ∧ R32 l6) <|
    jn (fun (v4 : Int) =>
        gd (R32 l8) <|
        jn (fun (c6 : W0) =>
            cn (f_X8_whyNoPivot p1 l11 l6 c6) fun v7 c8 =>
            gd (R32 l3) <|
            bq (l3 = 0) (
              rec 0 v4 1 (l11 + 1) c8) (
              cn (f_X8_entryDenominator p1 l11 l6 c8) fun v9 c10 =>
              gd (R64 v9) <|
              bq (v9 ≤ 0) (
                rec 0 v4 1 (l11 + 1) c10) (
                cn (f_X8_entryNumerator p1 l11 l6 c10) fun v11 c12 =>
                cn (f_X8_entryDenominator p1 l11 l6 c12) fun v13 c14 =>
                cv (f_L_divisor v11 v13) fun v15 =>
                gd (R64 v15) <|
                bq (v15 = 1) (
                  gd (R32 v7) <|
                  jn (fun (v17 : Int) =>
                      cn (f_X8_isNamed p1 l6 c14) fun v18 c19 =>
                      gd (R32 v17 ∧ R32 v18) <|
                      bq (v17 = v18) (
                        gd (R32 v7) <|
                        jn (fun (u21 : Unit) =>
                            gd (R32 v7) <|
                            jn (fun (c23 : W0) =>
                                gd (R32 v7) <|
                                jn (fun (u25 : Unit) =>
                                    gd (R64 l9) <|
                                    bq (l9 ≤ 0) (
                                      rec 0 v4 1 (l11 + 1) c23) (
                                      cn (f_X8_entryNumerator p1 l11 l6 c23) fun v26 c27 =>
                                      gd (R64 v26) <|
                                      bq (v26 ≤ 0) (
                                        rec 0 v4 1 (l11 + 1) c27) (
                                        rec 1 v4 1 (l11 + 1) c27))) fun k24 =>
                                bq (v7 = 4) (
                                  k24 ()) (
                                  gd (R32 v7) <|
                                  bq (v7 = 0) (
                                    k24 ()) (
                                    rec 1 v4 1 (l11 + 1) c23))) fun k22 =>
                            bq (v7 = 3) (
                              gd (R64 l9) <|
                              bq (l9 ≤ 0) (
                                rec 0 v4 1 (l11 + 1) c19) (
                                cn (f_X8_entryNumerator p1 l11 l6 c19) fun v28 c29 =>
                                gd (R64 v28) <|
                                bq (0 < v28) (
                                  rec 0 v4 1 (l11 + 1) c29) (
                                  k22 c29))) (
                              k22 c19)) fun k20 =>
                        bq (v7 = 2) (
                          gd (R64 l9) <|
                          bq (0 < l9) (
                            rec 0 v4 1 (l11 + 1) c19) (
                            k20 ())) (
                          k20 ())) (
                        rec 0 v4 1 (l11 + 1) c19)) fun k16 =>
                  bq (v7 = 1) (
                    k16 1) (
                    k16 0)) (
                  rec 0 v4 1 (l11 + 1) c14)))) fun k5 =>
        bq (l8 = 0) (
          cn (f_X8_entryNumerator p1 l11 l6 c2) fun v30 c31 =>
          gd (R64 v30) <|
          bq (v30 ≤ 0) (
            cn (f_X8_whyNoPivot p1 l11 l6 c31) fun v32 c33 =>
            gd (R32 l3) <|
            bq (l3 = 0) (
              rec 0 v4 0 (l11 + 1) c33) (
              cn (f_X8_entryDenominator p1 l11 l6 c33) fun v34 c35 =>
              gd (R64 v34) <|
              bq (v34 ≤ 0) (
                rec 0 v4 0 (l11 + 1) c35) (
                cn (f_X8_entryNumerator p1 l11 l6 c35) fun v36 c37 =>
                cn (f_X8_entryDenominator p1 l11 l6 c37) fun v38 c39 =>
                cv (f_L_divisor v36 v38) fun v40 =>
                gd (R64 v40) <|
                bq (v40 = 1) (
                  gd (R32 v32) <|
                  jn (fun (v42 : Int) =>
                      cn (f_X8_isNamed p1 l6 c39) fun v43 c44 =>
                      gd (R32 v42 ∧ R32 v43) <|
                      bq (v42 = v43) (
                        gd (R32 v32) <|
                        jn (fun (u46 : Unit) =>
                            gd (R32 v32) <|
                            jn (fun (c48 : W0) =>
                                gd (R32 v32) <|
                                jn (fun (u50 : Unit) =>
                                    gd (R64 l9) <|
                                    bq (l9 ≤ 0) (
                                      rec 0 v4 0 (l11 + 1) c48) (
                                      cn (f_X8_entryNumerator p1 l11 l6 c48) fun v51 c52 =>
                                      gd (R64 v51) <|
                                      bq (v51 ≤ 0) (
                                        rec 0 v4 0 (l11 + 1) c52) (
                                        rec 1 v4 0 (l11 + 1) c52))) fun k49 =>
                                bq (v32 = 4) (
                                  k49 ()) (
                                  gd (R32 v32) <|
                                  bq (v32 = 0) (
                                    k49 ()) (
                                    rec 1 v4 0 (l11 + 1) c48))) fun k47 =>
                            bq (v32 = 3) (
                              gd (R64 l9) <|
                              bq (l9 ≤ 0) (
                                rec 0 v4 0 (l11 + 1) c44) (
                                cn (f_X8_entryNumerator p1 l11 l6 c44) fun v53 c54 =>
                                gd (R64 v53) <|
                                bq (0 < v53) (
                                  rec 0 v4 0 (l11 + 1) c54) (
                                  k47 c54))) (
                              k47 c44)) fun k45 =>
                        bq (v32 = 2) (
                          gd (R64 l9) <|
                          bq (0 < l9) (
                            rec 0 v4 0 (l11 + 1) c44) (
                            k45 ())) (
                          k45 ())) (
                        rec 0 v4 0 (l11 + 1) c44)) fun k41 =>
                  bq (v32 = 1) (
                    k41 1) (
                    k41 0)) (
                  rec 0 v4 0 (l11 + 1) c39)))) (
            k5 c31)) (
          k5 c2)) fun k3 =>
    bq (v1 = l6) (
      k3 l11) (
      k3 l7))
noncomputable def f_L_areColumnsSo_46 (p1 : Nat) (l1 : Int) (l2 : Int) (l4 : Int) (l5 : Int) (l6 : Int) (l9 : Int) (κ : Int → Int → Int → W0 → Option (Int × W0)) : Nat → Int → Int → Int → Int → W0 → Option (Int × W0)
  | 0, _, _, _, _, _ => none
  | n + 1, l3, l7, l8, l11, c => b_L_areColumnsSo_46 p1 l1 l2 l4 l5 l6 l9 κ (f_L_areColumnsSo_46 p1 l1 l2 l4 l5 l6 l9 κ n) l3 l7 l8 l11 c
theorem f_L_areColumnsSo_46_s {p1 : Nat} {l1 : Int} {l2 : Int} {l4 : Int} {l5 : Int} {l6 : Int} {l9 : Int} {κ : Int → Int → Int → W0 → Option (Int × W0)} {n : Nat} {l3 : Int} {l7 : Int} {l8 : Int} {l11 : Int} {c : W0} : f_L_areColumnsSo_46 p1 l1 l2 l4 l5 l6 l9 κ (n + 1) l3 l7 l8 l11 c = b_L_areColumnsSo_46 p1 l1 l2 l4 l5 l6 l9 κ (f_L_areColumnsSo_46 p1 l1 l2 l4 l5 l6 l9 κ n) l3 l7 l8 l11 c := rfl
noncomputable def b_L_areColumnsSo_253 (p1 : Nat) (l1 : Int) (l2 : Int) (l4 : Int) (l5 : Int) (l6 : Int) (l7 : Int) (l8 : Int) (l9 : Int) (κ : Int → W0 → Option (Int × W0)) (rec : Int → Int → W0 → Option (Int × W0)) (l3 : Int) (l11 : Int) (c : W0) : Option (Int × W0) :=
  gd (R32 l11 ∧ R32 l2) <|
  bq (l2 ≤ l11) (
    κ l3 c) (
    gd (R32 l7) <|
    bq (l7 < 0) (
      κ l3 c) (
      gd (R32 l3) <|
      bq (l3 = 0) (
        rec 0 (l11 + 1) c) (
        cn (f_X8_entryNumerator p1 l11 l6 c) fun v1 c2 =>
        gd (R32 l11 ∧ R32 l7) <|
        jn (fun (v4 : Int) =>
            gd (R64 v1 ∧ R64 v4) <|
            bq (v1 = v4) (
              gd (R64 l9) <|
              bq (l9 = 0) (
                rec 1 (l11 + 1) c2) (
                rec 0 (l11 + 1) c2)) (
              rec 0 (l11 + 1) c2)) fun k3 =>
        bq (l11 = l7) (
          k3 1) (
          k3 0))))
noncomputable def f_L_areColumnsSo_253 (p1 : Nat) (l1 : Int) (l2 : Int) (l4 : Int) (l5 : Int) (l6 : Int) (l7 : Int) (l8 : Int) (l9 : Int) (κ : Int → W0 → Option (Int × W0)) : Nat → Int → Int → W0 → Option (Int × W0)
  | 0, _, _, _ => none
  | n + 1, l3, l11, c => b_L_areColumnsSo_253 p1 l1 l2 l4 l5 l6 l7 l8 l9 κ (f_L_areColumnsSo_253 p1 l1 l2 l4 l5 l6 l7 l8 l9 κ n) l3 l11 c
theorem f_L_areColumnsSo_253_s {p1 : Nat} {l1 : Int} {l2 : Int} {l4 : Int} {l5 : Int} {l6 : Int} {l7 : Int} {l8 : Int} {l9 : Int} {κ : Int → W0 → Option (Int × W0)} {n : Nat} {l3 : Int} {l11 : Int} {c : W0} : f_L_areColumnsSo_253 p1 l1 l2 l4 l5 l6 l7 l8 l9 κ (n + 1) l3 l11 c = b_L_areColumnsSo_253 p1 l1 l2 l4 l5 l6 l7 l8 l9 κ (f_L_areColumnsSo_253 p1 l1 l2 l4 l5 l6 l7 l8 l9 κ n) l3 l11 c := rfl
noncomputable def b_L_areColumnsSo_21 (p1 : Nat) (l1 : Int) (l2 : Int) (κ : Int → Int → Int → W0 → Option (Int × W0)) (rec : Int → Int → Int → Int → W0 → Option (Int × W0)) (l3 : Int) (l4 : Int) (l5 : Int) (l6 : Int) (c : W0) : Option (Int × W0) :=
  gd (R32 l6 ∧ R32 (l1 + l2)) <|
  bq ((l1 + l2) ≤ l6) (
    κ l3 l4 l5 c) (
    cn (f_X8_reducedNumerator p1 l6 c) fun v1 c2 =>
    f_L_areColumnsSo_46 p1 l1 l2 l4 l5 l6 v1 (fun v3 v4 v5 c6 =>
        f_L_areColumnsSo_253 p1 l1 l2 l4 l5 l6 v4 v5 v1 (fun v7 c8 =>
            gd (R32 l4) <|
            jn (fun (u10 : Unit) =>
                gd (R32 l5) <|
                jn (fun (u12 : Unit) =>
                    gd (R32 v7) <|
                    bq (v7 = 0) (
                      rec 0 0 1 (l6 + 1) c8) (
                      cn (f_X8_isNamed p1 l6 c8) fun v13 c14 =>
                      gd (R32 v4) <|
                      jn (fun (v16 : Int) =>
                          gd (R32 v13 ∧ R32 v16) <|
                          bq (v13 = v16) (
                            gd (R32 v4) <|
                            jn (fun (c18 : W0) =>
                                gd (R32 l6 ∧ R32 l1) <|
                                jn (fun (c20 : W0) =>
                                    rec 1 0 1 (l6 + 1) c20) fun k19 =>
                                bq (l6 < l1) (
                                  k19 c18) (
                                  cn (f_X8_dualNumerator p1 (l6 - l1) c18) fun v21 c22 =>
                                  gd (R64 v21 ∧ R64 (-v1)) <|
                                  bq (v21 = (-v1)) (
                                    cn (f_X8_dualDenominator p1 (l6 - l1) c22) fun v23 c24 =>
                                    cn (f_X8_reducedDenominator p1 l6 c24) fun v25 c26 =>
                                    gd (R64 v23 ∧ R64 v25) <|
                                    bq (v23 = v25) (
                                      cn (f_X8_dualNumeratorByEquations p1 (l6 - l1) c26) fun v27 c28 =>
                                      gd (R64 v27 ∧ R64 (-v1)) <|
                                      bq (v27 = (-v1)) (
                                        cn (f_X8_dualDenominatorByEquations p1 (l6 - l1) c28) fun v29 c30 =>
                                        cn (f_X8_reducedDenominator p1 l6 c30) fun v31 c32 =>
                                        gd (R64 v29 ∧ R64 v31) <|
                                        bq (v29 = v31) (
                                          k19 c32) (
                                          rec 0 0 1 (l6 + 1) c32)) (
                                        rec 0 0 1 (l6 + 1) c28)) (
                                      rec 0 0 1 (l6 + 1) c26)) (
                                    rec 0 0 1 (l6 + 1) c22))) fun k17 =>
                            bq (0 ≤ v4) (
                              k17 c14) (
                              cn (f_X8_givenNumerator p1 l6 c14) fun v33 c34 =>
                              gd (R64 v33) <|
                              bq (v33 = 0) (
                                k17 c34) (
                                rec 0 0 1 (l6 + 1) c34))) (
                            rec 0 0 1 (l6 + 1) c14)) fun k15 =>
                      bq (v4 < 0) (
                        k15 0) (
                        k15 1))) fun k11 =>
                bq (l5 = 0) (
                  gd (R64 v1) <|
                  jn (fun (u36 : Unit) =>
                      gd (R32 v7) <|
                      bq (v7 = 0) (
                        rec 0 0 0 (l6 + 1) c8) (
                        cn (f_X8_isNamed p1 l6 c8) fun v37 c38 =>
                        gd (R32 v4) <|
                        jn (fun (v40 : Int) =>
                            gd (R32 v37 ∧ R32 v40) <|
                            bq (v37 = v40) (
                              gd (R32 v4) <|
                              jn (fun (c42 : W0) =>
                                  gd (R32 l6 ∧ R32 l1) <|
                                  jn (fun (c44 : W0) =>
                                      rec 1 0 0 (l6 + 1) c44) fun k43 =>
                                  bq (l6 < l1) (
                                    k43 c42) (
                                    cn (f_X8_dualNumerator p1 (l6 - l1) c42) fun v45 c46 =>
                                    gd (R64 v45 ∧ R64 (-v1)) <|
                                    bq (v45 = (-v1)) (
                                      cn (f_X8_dualDenominator p1 (l6 - l1) c46) fun v47 c48 =>
                                      cn (f_X8_reducedDenominator p1 l6 c48) fun v49 c50 =>
                                      gd (R64 v47 ∧ R64 v49) <|
                                      bq (v47 = v49) (
                                        cn (f_X8_dualNumeratorByEquations p1 (l6 - l1) c50) fun v51 c52 =>
                                        gd (R64 v51 ∧ R64 (-v1)) <|
                                        bq (v51 = (-v1)) (
                                          cn (f_X8_dualDenominatorByEquations p1 (l6 - l1) c52) fun v53 c54 =>
                                          cn (f_X8_reducedDenominator p1 l6 c54) fun v55 c56 =>
                                          gd (R64 v53 ∧ R64 v55) <|
                                          bq (v53 = v55) (
                                            k43 c56) (
                                            rec 0 0 0 (l6 + 1) c56)) (
                                          rec 0 0 0 (l6 + 1) c52)) (
                                        rec 0 0 0 (l6 + 1) c50)) (
                                      rec 0 0 0 (l6 + 1) c46))) fun k41 =>
                              bq (0 ≤ v4) (
                                k41 c38) (
                                cn (f_X8_givenNumerator p1 l6 c38) fun v57 c58 =>
                                gd (R64 v57) <|
                                bq (v57 = 0) (
                                  k41 c58) (
                                  rec 0 0 0 (l6 + 1) c58))) (
                              rec 0 0 0 (l6 + 1) c38)) fun k39 =>
                        bq (v4 < 0) (
                          k39 0) (
                          k39 1))) fun k35 =>
                  bq (v1 ≤ 0) (
                    k35 ()) (
                    gd (R32 v5) <|
                    bq (v5 = 0) (
                      k11 ()) (
                      k35 ()))) (
                  k11 ())) fun k9 =>
            bq (l4 = 0) (
              k9 ()) (
              gd (R64 v1) <|
              bq (0 < v1) (
                k9 ()) (
                gd (R32 l5) <|
                jn (fun (u60 : Unit) =>
                    gd (R32 v7) <|
                    bq (v7 = 0) (
                      rec 0 1 1 (l6 + 1) c8) (
                      cn (f_X8_isNamed p1 l6 c8) fun v61 c62 =>
                      gd (R32 v4) <|
                      jn (fun (v64 : Int) =>
                          gd (R32 v61 ∧ R32 v64) <|
                          bq (v61 = v64) (
                            gd (R32 v4) <|
                            jn (fun (c66 : W0) =>
                                gd (R32 l6 ∧ R32 l1) <|
                                jn (fun (c68 : W0) =>
                                    rec 1 1 1 (l6 + 1) c68) fun k67 =>
                                bq (l6 < l1) (
                                  k67 c66) (
                                  cn (f_X8_dualNumerator p1 (l6 - l1) c66) fun v69 c70 =>
                                  gd (R64 v69 ∧ R64 (-v1)) <|
                                  bq (v69 = (-v1)) (
                                    cn (f_X8_dualDenominator p1 (l6 - l1) c70) fun v71 c72 =>
                                    cn (f_X8_reducedDenominator p1 l6 c72) fun v73 c74 =>
                                    gd (R64 v71 ∧ R64 v73) <|
                                    bq (v71 = v73) (
                                      cn (f_X8_dualNumeratorByEquations p1 (l6 - l1) c74) fun v75 c76 =>
                                      gd (R64 v75 ∧ R64 (-v1)) <|
                                      bq (v75 = (-v1)) (
                                        cn (f_X8_dualDenominatorByEquations p1 (l6 - l1) c76) fun v77 c78 =>
                                        cn (f_X8_reducedDenominator p1 l6 c78) fun v79 c80 =>
                                        gd (R64 v77 ∧ R64 v79) <|
                                        bq (v77 = v79) (
                                          k67 c80) (
                                          rec 0 1 1 (l6 + 1) c80)) (
                                        rec 0 1 1 (l6 + 1) c76)) (
                                      rec 0 1 1 (l6 + 1) c74)) (
                                    rec 0 1 1 (l6 + 1) c70))) fun k65 =>
                            bq (0 ≤ v4) (
                              k65 c62) (
                              cn (f_X8_givenNumerator p1 l6 c62) fun v81 c82 =>
                              gd (R64 v81) <|
                              bq (v81 = 0) (
                                k65 c82) (
                                rec 0 1 1 (l6 + 1) c82))) (
                            rec 0 1 1 (l6 + 1) c62)) fun k63 =>
                      bq (v4 < 0) (
                        k63 0) (
                        k63 1))) fun k59 =>
                bq (l5 = 0) (
                  gd (R64 v1) <|
                  jn (fun (u84 : Unit) =>
                      gd (R32 v7) <|
                      bq (v7 = 0) (
                        rec 0 1 0 (l6 + 1) c8) (
                        cn (f_X8_isNamed p1 l6 c8) fun v85 c86 =>
                        gd (R32 v4) <|
                        jn (fun (v88 : Int) =>
                            gd (R32 v85 ∧ R32 v88) <|
                            bq (v85 = v88) (
                              gd (R32 v4) <|
                              jn (fun (c90 : W0) =>
                                  gd (R32 l6 ∧ R32 l1) <|
                                  jn (fun (c92 : W0) =>
                                      rec 1 1 0 (l6 + 1) c92) fun k91 =>
                                  bq (l6 < l1) (
                                    k91 c90) (
                                    cn (f_X8_dualNumerator p1 (l6 - l1) c90) fun v93 c94 =>
                                    gd (R64 v93 ∧ R64 (-v1)) <|
                                    bq (v93 = (-v1)) (
                                      cn (f_X8_dualDenominator p1 (l6 - l1) c94) fun v95 c96 =>
                                      cn (f_X8_reducedDenominator p1 l6 c96) fun v97 c98 =>
                                      gd (R64 v95 ∧ R64 v97) <|
                                      bq (v95 = v97) (
                                        cn (f_X8_dualNumeratorByEquations p1 (l6 - l1) c98) fun v99 c100 =>
                                        gd (R64 v99 ∧ R64 (-v1)) <|
                                        bq (v99 = (-v1)) (
                                          cn (f_X8_dualDenominatorByEquations p1 (l6 - l1) c100) fun v101 c102 =>
                                          cn (f_X8_reducedDenominator p1 l6 c102) fun v103 c104 =>
                                          gd (R64 v101 ∧ R64 v103) <|
                                          bq (v101 = v103) (
                                            k91 c104) (
                                            rec 0 1 0 (l6 + 1) c104)) (
                                          rec 0 1 0 (l6 + 1) c100)) (
                                        rec 0 1 0 (l6 + 1) c98)) (
                                      rec 0 1 0 (l6 + 1) c94))) fun k89 =>
                              bq (0 ≤ v4) (
                                k89 c86) (
                                cn (f_X8_givenNumerator p1 l6 c86) fun v105 c106 =>
                                gd (R64 v105) <|
                                bq (v105 = 0) (
                                  k89 c106) (
                                  rec 0 1 0 (l6 + 1) c106))) (
                              rec 0 1 0 (l6 + 1) c86)) fun k87 =>
                        bq (v4 < 0) (
                          k87 0) (
                          k87 1))) fun k83 =>
                  bq (v1 ≤ 0) (
                    k83 ()) (
                    gd (R32 v5) <|
                    bq (v5 = 0) (
                      k59 ()) (
                      k83 ()))) (
                  k59 ())))) LF v3 0 c6) LF l3 (-1) 0 0 c2)
noncomputable def f_L_areColumnsSo_21 (p1 : Nat) (l1 : Int) (l2 : Int) (κ : Int → Int → Int → W0 → Option (Int × W0)) : Nat → Int → Int → Int → Int → W0 → Option (Int × W0)
  | 0, _, _, _, _, _ => none
  | n + 1, l3, l4, l5, l6, c => b_L_areColumnsSo_21 p1 l1 l2 κ (f_L_areColumnsSo_21 p1 l1 l2 κ n) l3 l4 l5 l6 c
theorem f_L_areColumnsSo_21_s {p1 : Nat} {l1 : Int} {l2 : Int} {κ : Int → Int → Int → W0 → Option (Int × W0)} {n : Nat} {l3 : Int} {l4 : Int} {l5 : Int} {l6 : Int} {c : W0} : f_L_areColumnsSo_21 p1 l1 l2 κ (n + 1) l3 l4 l5 l6 c = b_L_areColumnsSo_21 p1 l1 l2 κ (f_L_areColumnsSo_21 p1 l1 l2 κ n) l3 l4 l5 l6 c := rfl
noncomputable def f_L_areColumnsSo (p1 : Nat) (c : W0) : Option (Int × W0) :=
  cv (f_X8_variables p1 c) fun v1 =>
  cv (f_X8_constraints p1 c) fun v2 =>
  f_L_areColumnsSo_21 p1 v1 v2 (fun v3 v4 v5 c6 =>
      gd (R32 v3) <|
      bq (v3 = 0) (
        some ((0 : Int), c6)) (
        cv (f_X8_isOptimal p1 c6) fun v7 =>
        gd (R32 v7 ∧ R32 v4) <|
        bq (v7 = v4) (
          cv (f_X8_hasRay p1 c6) fun v8 =>
          gd (R32 v8 ∧ R32 v5) <|
          bq (v8 = v5) (
            cv (f_X8_dualValueNumerator p1 c6) fun v9 =>
            cv (f_X8_valueNumerator p1 c6) fun v10 =>
            gd (R64 v9 ∧ R64 v10) <|
            bq (v9 = v10) (
              cv (f_X8_dualValueDenominator p1 c6) fun v11 =>
              cv (f_X8_valueDenominator p1 c6) fun v12 =>
              gd (R64 v11 ∧ R64 v12) <|
              bq (v11 = v12) (
                some ((1 : Int), c6)) (
                some ((0 : Int), c6))) (
              some ((0 : Int), c6))) (
            some ((0 : Int), c6))) (
          some ((0 : Int), c6)))) LF 1 1 0 0 c
noncomputable def b_L_areBasesSo_82 (p1 : Nat) (κ : Int → W0 → Option (Int × W0)) (rec : Int → Int → W0 → Option (Int × W0)) (l3 : Int) (l4 : Int) (c : W0) : Option (Int × W0) :=
  cv (f_X8_constraints p1 c) fun v1 =>
  gd (R32 l4 ∧ R32 v1) <|
  bq (v1 ≤ l4) (
    κ l3 c) (
    cn (f_X8_leastBound p1 l4 c) fun v2 c3 =>
    cn (f_X8_greatestBound p1 l4 c3) fun v4 c5 =>
    gd (R32 l3) <|
    bq (l3 = 0) (
      rec 0 (l4 + 1) c5) (
      gd (R32 v2) <|
      bq (v2 < 0) (
        rec 0 (l4 + 1) c5) (
        cn (f_X8_boundOf p1 l4 c5) fun v6 c7 =>
        gd (R32 v2 ∧ R32 v6) <|
        bq (v6 < v2) (
          rec 0 (l4 + 1) c7) (
          cn (f_X8_boundOf p1 l4 c7) fun v8 c9 =>
          gd (R32 v4 ∧ R32 v8) <|
          bq (v4 < v8) (
            rec 0 (l4 + 1) c9) (
            gd (R32 v4) <|
            bq (100 ≤ v4) (
              rec 0 (l4 + 1) c9) (
              rec 1 (l4 + 1) c9))))))
noncomputable def f_L_areBasesSo_82 (p1 : Nat) (κ : Int → W0 → Option (Int × W0)) : Nat → Int → Int → W0 → Option (Int × W0)
  | 0, _, _, _ => none
  | n + 1, l3, l4, c => b_L_areBasesSo_82 p1 κ (f_L_areBasesSo_82 p1 κ n) l3 l4 c
theorem f_L_areBasesSo_82_s {p1 : Nat} {κ : Int → W0 → Option (Int × W0)} {n : Nat} {l3 : Int} {l4 : Int} {c : W0} : f_L_areBasesSo_82 p1 κ (n + 1) l3 l4 c = b_L_areBasesSo_82 p1 κ (f_L_areBasesSo_82 p1 κ n) l3 l4 c := rfl
noncomputable def f_L_areBasesSo (p1 : Nat) (c : W0) : Option (Int × W0) :=
  cl (f_X8_bestNumerator p1 c) fun v1 c2 =>
  cv (f_X8_valueDenominator p1 c2) fun v3 =>
  cv (f_X8_valueNumerator p1 c2) fun v4 =>
  cl (f_X8_bestDenominator p1 c2) fun v5 c6 =>
  gd (R64 ((v1 * v3) - (v4 * v5))) <|
  jn (fun (c8 : W0) =>
      f_L_areBasesSo_82 p1 (fun v9 c10 =>
          gd (0 ≤ v9 ∧ v9 ≤ 1) <|
          some ((v9 : Int), c10)) LF 0 0 c8) fun k7 =>
  bq (((v1 * v3) - (v4 * v5)) < 0) (
    k7 c6) (
    cv (f_X8_isOptimal p1 c6) fun v11 =>
    gd (R32 v11) <|
    jn (fun (u13 : Unit) =>
        cl (f_X8_feasibleBases p1 c6) fun v14 c15 =>
        gd (R32 v14) <|
        bq (v14 ≤ 0) (
          k7 c15) (
          cl (f_X8_unlikeValues p1 c15) fun v16 c17 =>
          gd (R32 v16) <|
          bq (v16 ≤ 0) (
            k7 c17) (
            cl (f_X8_unlikeValues p1 c17) fun v18 c19 =>
            cl (f_X8_feasibleBases p1 c19) fun v20 c21 =>
            gd (R32 v18 ∧ R32 v20) <|
            bq (v20 < v18) (
              k7 c21) (
              cl (f_X8_feasibleBases p1 c21) fun v22 c23 =>
              gd (R32 v22) <|
              bq (70 < v22) (
                k7 c23) (
                f_L_areBasesSo_82 p1 (fun v24 c25 =>
                    gd (0 ≤ v24 ∧ v24 ≤ 1) <|
                    some ((v24 : Int), c25)) LF 1 0 c23))))) fun k12 =>
    bq (v11 = 0) (
      k12 ()) (
      gd (R64 ((v1 * v3) - (v4 * v5))) <|
      bq (((v1 * v3) - (v4 * v5)) = 0) (
        k12 ()) (
        k7 c6)))
noncomputable def f_L_isStepSo (p1 : Nat) (p2 : Nat) (c : W0) : Option (Int × W0) :=
  cv (f_X8_isOptimal p1 c) fun v1 =>
  gd (R32 v1) <|
  jn (fun (u3 : Unit) =>
      cv (f_X8_valueNumerator p1 c) fun v4 =>
      cv (f_X8_valueDenominator p1 c) fun v5 =>
      cl (f_X8_pivotsLeft p1 c) fun v6 c7 =>
      cv (f_X8_pivots p1 c7) fun v8 =>
      bq (1 = 0) (
        cn (f_X8_nextColumn p1 c7) fun v9 c10 =>
        cn (f_X8_nextRow p1 c10) fun v11 c12 =>
        cn (f_X8_columnOf p1 v11 c12) fun v13 c14 =>
        cv (f_X8_idlePivots p1 c14) fun v15 =>
        cn (f_X8_whyNoPivot p1 v11 v9 c14) fun v16 c17 =>
        gd (R32 v16) <|
        jn (fun (c19 : W0) =>
            cv (f_X8_valueNumerator p1 c19) fun v20 =>
            cv (f_X8_valueDenominator p1 c19) fun v21 =>
            jn (fun (c23 : W0) =>
                bq (0 = 0) (
                  some ((0 : Int), c23)) (
                  cl (f_X8_solve p1 c23) fun v24 c25 =>
                  gd (R32 v24 ∧ R32 v6) <|
                  bq (v24 = v6) (
                    gd (R32 v6) <|
                    jn (fun (u27 : Unit) =>
                        cn (f_X8_undo p1 c25) fun v28 c29 =>
                        gd (R32 v28) <|
                        bq (v28 < 0) (
                          some ((0 : Int), c29)) (
                          cv (f_X8_pivots p1 c29) fun v30 =>
                          gd (R32 v30 ∧ R32 v8) <|
                          bq (v30 = v8) (
                            cv (f_X8_valueNumerator p1 c29) fun v31 =>
                            gd (R64 v31 ∧ R64 v4) <|
                            bq (v31 = v4) (
                              some ((1 : Int), c29)) (
                              some ((0 : Int), c29))) (
                            some ((0 : Int), c29)))) fun k26 =>
                    bq (v6 = 40) (
                      k26 ()) (
                      cv (f_X8_isOptimal p1 c25) fun v32 =>
                      gd (R32 v32) <|
                      bq (v32 = 0) (
                        cv (f_X8_hasRay p1 c25) fun v33 =>
                        gd (R32 v33) <|
                        bq (v33 = 0) (
                          some ((0 : Int), c25)) (
                          k26 ())) (
                        k26 ()))) (
                    some ((0 : Int), c25)))) fun k22 =>
            bq (0 = 0) (
              k22 c19) (
              gd (R64 ((v20 * v5) - (v4 * v21))) <|
              bq (((v20 * v5) - (v4 * v21)) < 0) (
                k22 c19) (
                cv (f_X8_idlePivots p1 c19) fun v34 =>
                gd (R64 ((v20 * v5) - (v4 * v21))) <|
                jn (fun (v36 : Int) =>
                    gd (R32 v34 ∧ R32 (v15 + v36)) <|
                    bq (v34 = (v15 + v36)) (
                      gd (R32 v6) <|
                      jn (fun (c38 : W0) =>
                          cn (f_X8_undo p1 c38) fun v39 c40 =>
                          gd (R32 v39) <|
                          bq (v39 < 0) (
                            k22 c40) (
                            cn (f_X8_step p1 c40) fun v41 c42 =>
                            gd (R32 v41 ∧ R32 v9) <|
                            bq (v41 = v9) (
                              cn (f_X8_columnOf p1 v11 c42) fun v43 c44 =>
                              gd (R32 v43 ∧ R32 v9) <|
                              bq (v43 = v9) (
                                cn (f_X8_undo p1 c44) fun v45 c46 =>
                                gd (R32 v45) <|
                                bq (v45 < 0) (
                                  k22 c46) (
                                  bq (1 = 0) (
                                    some ((0 : Int), c46)) (
                                    cl (f_X8_solve p1 c46) fun v47 c48 =>
                                    gd (R32 v47 ∧ R32 v6) <|
                                    bq (v47 = v6) (
                                      gd (R32 v6) <|
                                      jn (fun (u50 : Unit) =>
                                          cn (f_X8_undo p1 c48) fun v51 c52 =>
                                          gd (R32 v51) <|
                                          bq (v51 < 0) (
                                            some ((0 : Int), c52)) (
                                            cv (f_X8_pivots p1 c52) fun v53 =>
                                            gd (R32 v53 ∧ R32 v8) <|
                                            bq (v53 = v8) (
                                              cv (f_X8_valueNumerator p1 c52) fun v54 =>
                                              gd (R64 v54 ∧ R64 v4) <|
                                              bq (v54 = v4) (
                                                some ((1 : Int), c52)) (
                                                some ((0 : Int), c52))) (
                                              some ((0 : Int), c52)))) fun k49 =>
                                      bq (v6 = 40) (
                                        k49 ()) (
                                        cv (f_X8_isOptimal p1 c48) fun v55 =>
                                        gd (R32 v55) <|
                                        bq (v55 = 0) (
                                          cv (f_X8_hasRay p1 c48) fun v56 =>
                                          gd (R32 v56) <|
                                          bq (v56 = 0) (
                                            some ((0 : Int), c48)) (
                                            k49 ())) (
                                          k49 ()))) (
                                      some ((0 : Int), c48))))) (
                                k22 c44)) (
                              k22 c42))) fun k37 =>
                      bq (v6 = 40) (
                        k37 c19) (
                        cl (f_X8_pivotsLeft p1 c19) fun v57 c58 =>
                        gd (R32 v57 ∧ R32 (v6 - 1)) <|
                        bq (v57 = (v6 - 1)) (
                          k37 c58) (
                          k22 c58))) (
                      k22 c19)) fun k35 =>
                bq (((v20 * v5) - (v4 * v21)) = 0) (
                  k35 1) (
                  k35 0)))) fun k18 =>
        bq (v16 = 0) (
          cn (f_X8_pivot p1 v11 v9 c17) fun v59 c60 =>
          gd (R32 v59 ∧ R32 v13) <|
          bq (v59 = v13) (
            cn (f_X8_columnOf p1 v11 c60) fun v61 c62 =>
            gd (R32 v61 ∧ R32 v9) <|
            bq (v61 = v9) (
              cv (f_X8_pivots p1 c62) fun v63 =>
              gd (R32 v63 ∧ R32 (v8 + 1)) <|
              bq (v63 = (v8 + 1)) (
                cv (f_X8_valueNumerator p1 c62) fun v64 =>
                cv (f_X8_valueDenominator p1 c62) fun v65 =>
                jn (fun (c67 : W0) =>
                    bq (0 = 0) (
                      some ((0 : Int), c67)) (
                      cl (f_X8_solve p1 c67) fun v68 c69 =>
                      gd (R32 v68 ∧ R32 v6) <|
                      bq (v68 = v6) (
                        gd (R32 v6) <|
                        jn (fun (u71 : Unit) =>
                            cn (f_X8_undo p1 c69) fun v72 c73 =>
                            gd (R32 v72) <|
                            bq (v72 < 0) (
                              some ((0 : Int), c73)) (
                              cv (f_X8_pivots p1 c73) fun v74 =>
                              gd (R32 v74 ∧ R32 v8) <|
                              bq (v74 = v8) (
                                cv (f_X8_valueNumerator p1 c73) fun v75 =>
                                gd (R64 v75 ∧ R64 v4) <|
                                bq (v75 = v4) (
                                  some ((1 : Int), c73)) (
                                  some ((0 : Int), c73))) (
                                some ((0 : Int), c73)))) fun k70 =>
                        bq (v6 = 40) (
                          k70 ()) (
                          cv (f_X8_isOptimal p1 c69) fun v76 =>
                          gd (R32 v76) <|
                          bq (v76 = 0) (
                            cv (f_X8_hasRay p1 c69) fun v77 =>
                            gd (R32 v77) <|
                            bq (v77 = 0) (
                              some ((0 : Int), c69)) (
                              k70 ())) (
                            k70 ()))) (
                        some ((0 : Int), c69)))) fun k66 =>
                bq (1 = 0) (
                  k66 c62) (
                  gd (R64 ((v64 * v5) - (v4 * v65))) <|
                  bq (((v64 * v5) - (v4 * v65)) < 0) (
                    k66 c62) (
                    cv (f_X8_idlePivots p1 c62) fun v78 =>
                    gd (R64 ((v64 * v5) - (v4 * v65))) <|
                    jn (fun (v80 : Int) =>
                        gd (R32 v78 ∧ R32 (v15 + v80)) <|
                        bq (v78 = (v15 + v80)) (
                          gd (R32 v6) <|
                          jn (fun (c82 : W0) =>
                              cn (f_X8_undo p1 c82) fun v83 c84 =>
                              gd (R32 v83) <|
                              bq (v83 < 0) (
                                k66 c84) (
                                cn (f_X8_step p1 c84) fun v85 c86 =>
                                gd (R32 v85 ∧ R32 v9) <|
                                bq (v85 = v9) (
                                  cn (f_X8_columnOf p1 v11 c86) fun v87 c88 =>
                                  gd (R32 v87 ∧ R32 v9) <|
                                  bq (v87 = v9) (
                                    cn (f_X8_undo p1 c88) fun v89 c90 =>
                                    gd (R32 v89) <|
                                    bq (v89 < 0) (
                                      k66 c90) (
                                      bq (1 = 0) (
                                        some ((0 : Int), c90)) (
                                        cl (f_X8_solve p1 c90) fun v91 c92 =>
                                        gd (R32 v91 ∧ R32 v6) <|
                                        bq (v91 = v6) (
                                          gd (R32 v6) <|
                                          jn (fun (u94 : Unit) =>
                                              cn (f_X8_undo p1 c92) fun v95 c96 =>
                                              gd (R32 v95) <|
                                              bq (v95 < 0) (
                                                some ((0 : Int), c96)) (
                                                cv (f_X8_pivots p1 c96) fun v97 =>
                                                gd (R32 v97 ∧ R32 v8) <|
                                                bq (v97 = v8) (
                                                  cv (f_X8_valueNumerator p1 c96) fun v98 =>
                                                  gd (R64 v98 ∧ R64 v4) <|
                                                  bq (v98 = v4) (
                                                    some ((1 : Int), c96)) (
                                                    some ((0 : Int), c96))) (
                                                  some ((0 : Int), c96)))) fun k93 =>
                                          bq (v6 = 40) (
                                            k93 ()) (
                                            cv (f_X8_isOptimal p1 c92) fun v99 =>
                                            gd (R32 v99) <|
                                            bq (v99 = 0) (
                                              cv (f_X8_hasRay p1 c92) fun v100 =>
                                              gd (R32 v100) <|
                                              bq (v100 = 0) (
                                                some ((0 : Int), c92)) (
                                                k93 ())) (
                                              k93 ()))) (
                                          some ((0 : Int), c92))))) (
                                    k66 c88)) (
                                  k66 c86))) fun k81 =>
                          bq (v6 = 40) (
                            k81 c62) (
                            cl (f_X8_pivotsLeft p1 c62) fun v101 c102 =>
                            gd (R32 v101 ∧ R32 (v6 - 1)) <|
                            bq (v101 = (v6 - 1)) (
                              k81 c102) (
                              k66 c102))) (
                          k66 c62)) fun k79 =>
                    bq (((v64 * v5) - (v4 * v65)) = 0) (
                      k79 1) (
                      k79 0)))) (
                k18 c62)) (
              k18 c62)) (
            k18 c60)) (
          k18 c17)) (
        gd (R32 v6) <|
        bq (v6 = 0) (
          cl (f_L_changes p1 7 0 0 0 p2 c7) fun v103 c104 =>
          gd (R32 v103) <|
          bq (v103 = 3) (
            cv (f_X8_pivots p1 c104) fun v105 =>
            gd (R32 v105 ∧ R32 v8) <|
            bq (v105 = v8) (
              some ((1 : Int), c104)) (
              some ((0 : Int), c104))) (
            some ((0 : Int), c104))) (
          some ((0 : Int), c7)))) fun k2 =>
  bq (v1 = 0) (
    cv (f_X8_hasRay p1 c) fun v106 =>
    gd (R32 v106) <|
    bq (v106 = 0) (
      cv (f_X8_valueNumerator p1 c) fun v107 =>
      cv (f_X8_valueDenominator p1 c) fun v108 =>
      cl (f_X8_pivotsLeft p1 c) fun v109 c110 =>
      cv (f_X8_pivots p1 c110) fun v111 =>
      bq (0 = 0) (
        cn (f_X8_nextColumn p1 c110) fun v112 c113 =>
        cn (f_X8_nextRow p1 c113) fun v114 c115 =>
        cn (f_X8_columnOf p1 v114 c115) fun v116 c117 =>
        cv (f_X8_idlePivots p1 c117) fun v118 =>
        cn (f_X8_whyNoPivot p1 v114 v112 c117) fun v119 c120 =>
        gd (R32 v119) <|
        jn (fun (c122 : W0) =>
            cv (f_X8_valueNumerator p1 c122) fun v123 =>
            cv (f_X8_valueDenominator p1 c122) fun v124 =>
            jn (fun (c126 : W0) =>
                bq (0 = 0) (
                  some ((0 : Int), c126)) (
                  cl (f_X8_solve p1 c126) fun v127 c128 =>
                  gd (R32 v127 ∧ R32 v109) <|
                  bq (v127 = v109) (
                    gd (R32 v109) <|
                    jn (fun (u130 : Unit) =>
                        cn (f_X8_undo p1 c128) fun v131 c132 =>
                        gd (R32 v131) <|
                        bq (v131 < 0) (
                          some ((0 : Int), c132)) (
                          cv (f_X8_pivots p1 c132) fun v133 =>
                          gd (R32 v133 ∧ R32 v111) <|
                          bq (v133 = v111) (
                            cv (f_X8_valueNumerator p1 c132) fun v134 =>
                            gd (R64 v134 ∧ R64 v107) <|
                            bq (v134 = v107) (
                              some ((1 : Int), c132)) (
                              some ((0 : Int), c132))) (
                            some ((0 : Int), c132)))) fun k129 =>
                    bq (v109 = 40) (
                      k129 ()) (
                      cv (f_X8_isOptimal p1 c128) fun v135 =>
                      gd (R32 v135) <|
                      bq (v135 = 0) (
                        cv (f_X8_hasRay p1 c128) fun v136 =>
                        gd (R32 v136) <|
                        bq (v136 = 0) (
                          some ((0 : Int), c128)) (
                          k129 ())) (
                        k129 ()))) (
                    some ((0 : Int), c128)))) fun k125 =>
            bq (0 = 0) (
              k125 c122) (
              gd (R64 ((v123 * v108) - (v107 * v124))) <|
              bq (((v123 * v108) - (v107 * v124)) < 0) (
                k125 c122) (
                cv (f_X8_idlePivots p1 c122) fun v137 =>
                gd (R64 ((v123 * v108) - (v107 * v124))) <|
                jn (fun (v139 : Int) =>
                    gd (R32 v137 ∧ R32 (v118 + v139)) <|
                    bq (v137 = (v118 + v139)) (
                      gd (R32 v109) <|
                      jn (fun (c141 : W0) =>
                          cn (f_X8_undo p1 c141) fun v142 c143 =>
                          gd (R32 v142) <|
                          bq (v142 < 0) (
                            k125 c143) (
                            cn (f_X8_step p1 c143) fun v144 c145 =>
                            gd (R32 v144 ∧ R32 v112) <|
                            bq (v144 = v112) (
                              cn (f_X8_columnOf p1 v114 c145) fun v146 c147 =>
                              gd (R32 v146 ∧ R32 v112) <|
                              bq (v146 = v112) (
                                cn (f_X8_undo p1 c147) fun v148 c149 =>
                                gd (R32 v148) <|
                                bq (v148 < 0) (
                                  k125 c149) (
                                  bq (1 = 0) (
                                    some ((0 : Int), c149)) (
                                    cl (f_X8_solve p1 c149) fun v150 c151 =>
                                    gd (R32 v150 ∧ R32 v109) <|
                                    bq (v150 = v109) (
                                      gd (R32 v109) <|
                                      jn (fun (u153 : Unit) =>
                                          cn (f_X8_undo p1 c151) fun v154 c155 =>
                                          gd (R32 v154) <|
                                          bq (v154 < 0) (
                                            some ((0 : Int), c155)) (
                                            cv (f_X8_pivots p1 c155) fun v156 =>
                                            gd (R32 v156 ∧ R32 v111) <|
                                            bq (v156 = v111) (
                                              cv (f_X8_valueNumerator p1 c155) fun v157 =>
                                              gd (R64 v157 ∧ R64 v107) <|
                                              bq (v157 = v107) (
                                                some ((1 : Int), c155)) (
                                                some ((0 : Int), c155))) (
                                              some ((0 : Int), c155)))) fun k152 =>
                                      bq (v109 = 40) (
                                        k152 ()) (
                                        cv (f_X8_isOptimal p1 c151) fun v158 =>
                                        gd (R32 v158) <|
                                        bq (v158 = 0) (
                                          cv (f_X8_hasRay p1 c151) fun v159 =>
                                          gd (R32 v159) <|
                                          bq (v159 = 0) (
                                            some ((0 : Int), c151)) (
                                            k152 ())) (
                                          k152 ()))) (
                                      some ((0 : Int), c151))))) (
                                k125 c147)) (
                              k125 c145))) fun k140 =>
                      bq (v109 = 40) (
                        k140 c122) (
                        cl (f_X8_pivotsLeft p1 c122) fun v160 c161 =>
                        gd (R32 v160 ∧ R32 (v109 - 1)) <|
                        bq (v160 = (v109 - 1)) (
                          k140 c161) (
                          k125 c161))) (
                      k125 c122)) fun k138 =>
                bq (((v123 * v108) - (v107 * v124)) = 0) (
                  k138 1) (
                  k138 0)))) fun k121 =>
        bq (v119 = 0) (
          cn (f_X8_pivot p1 v114 v112 c120) fun v162 c163 =>
          gd (R32 v162 ∧ R32 v116) <|
          bq (v162 = v116) (
            cn (f_X8_columnOf p1 v114 c163) fun v164 c165 =>
            gd (R32 v164 ∧ R32 v112) <|
            bq (v164 = v112) (
              cv (f_X8_pivots p1 c165) fun v166 =>
              gd (R32 v166 ∧ R32 (v111 + 1)) <|
              bq (v166 = (v111 + 1)) (
                cv (f_X8_valueNumerator p1 c165) fun v167 =>
                cv (f_X8_valueDenominator p1 c165) fun v168 =>
                jn (fun (c170 : W0) =>
                    bq (0 = 0) (
                      some ((0 : Int), c170)) (
                      cl (f_X8_solve p1 c170) fun v171 c172 =>
                      gd (R32 v171 ∧ R32 v109) <|
                      bq (v171 = v109) (
                        gd (R32 v109) <|
                        jn (fun (u174 : Unit) =>
                            cn (f_X8_undo p1 c172) fun v175 c176 =>
                            gd (R32 v175) <|
                            bq (v175 < 0) (
                              some ((0 : Int), c176)) (
                              cv (f_X8_pivots p1 c176) fun v177 =>
                              gd (R32 v177 ∧ R32 v111) <|
                              bq (v177 = v111) (
                                cv (f_X8_valueNumerator p1 c176) fun v178 =>
                                gd (R64 v178 ∧ R64 v107) <|
                                bq (v178 = v107) (
                                  some ((1 : Int), c176)) (
                                  some ((0 : Int), c176))) (
                                some ((0 : Int), c176)))) fun k173 =>
                        bq (v109 = 40) (
                          k173 ()) (
                          cv (f_X8_isOptimal p1 c172) fun v179 =>
                          gd (R32 v179) <|
                          bq (v179 = 0) (
                            cv (f_X8_hasRay p1 c172) fun v180 =>
                            gd (R32 v180) <|
                            bq (v180 = 0) (
                              some ((0 : Int), c172)) (
                              k173 ())) (
                            k173 ()))) (
                        some ((0 : Int), c172)))) fun k169 =>
                bq (1 = 0) (
                  k169 c165) (
                  gd (R64 ((v167 * v108) - (v107 * v168))) <|
                  bq (((v167 * v108) - (v107 * v168)) < 0) (
                    k169 c165) (
                    cv (f_X8_idlePivots p1 c165) fun v181 =>
                    gd (R64 ((v167 * v108) - (v107 * v168))) <|
                    jn (fun (v183 : Int) =>
                        gd (R32 v181 ∧ R32 (v118 + v183)) <|
                        bq (v181 = (v118 + v183)) (
                          gd (R32 v109) <|
                          jn (fun (c185 : W0) =>
                              cn (f_X8_undo p1 c185) fun v186 c187 =>
                              gd (R32 v186) <|
                              bq (v186 < 0) (
                                k169 c187) (
                                cn (f_X8_step p1 c187) fun v188 c189 =>
                                gd (R32 v188 ∧ R32 v112) <|
                                bq (v188 = v112) (
                                  cn (f_X8_columnOf p1 v114 c189) fun v190 c191 =>
                                  gd (R32 v190 ∧ R32 v112) <|
                                  bq (v190 = v112) (
                                    cn (f_X8_undo p1 c191) fun v192 c193 =>
                                    gd (R32 v192) <|
                                    bq (v192 < 0) (
                                      k169 c193) (
                                      bq (1 = 0) (
                                        some ((0 : Int), c193)) (
                                        cl (f_X8_solve p1 c193) fun v194 c195 =>
                                        gd (R32 v194 ∧ R32 v109) <|
                                        bq (v194 = v109) (
                                          gd (R32 v109) <|
                                          jn (fun (u197 : Unit) =>
                                              cn (f_X8_undo p1 c195) fun v198 c199 =>
                                              gd (R32 v198) <|
                                              bq (v198 < 0) (
                                                some ((0 : Int), c199)) (
                                                cv (f_X8_pivots p1 c199) fun v200 =>
                                                gd (R32 v200 ∧ R32 v111) <|
                                                bq (v200 = v111) (
                                                  cv (f_X8_valueNumerator p1 c199) fun v201 =>
                                                  gd (R64 v201 ∧ R64 v107) <|
                                                  bq (v201 = v107) (
                                                    some ((1 : Int), c199)) (
                                                    some ((0 : Int), c199))) (
                                                  some ((0 : Int), c199)))) fun k196 =>
                                          bq (v109 = 40) (
                                            k196 ()) (
                                            cv (f_X8_isOptimal p1 c195) fun v202 =>
                                            gd (R32 v202) <|
                                            bq (v202 = 0) (
                                              cv (f_X8_hasRay p1 c195) fun v203 =>
                                              gd (R32 v203) <|
                                              bq (v203 = 0) (
                                                some ((0 : Int), c195)) (
                                                k196 ())) (
                                              k196 ()))) (
                                          some ((0 : Int), c195))))) (
                                    k169 c191)) (
                                  k169 c189))) fun k184 =>
                          bq (v109 = 40) (
                            k184 c165) (
                            cl (f_X8_pivotsLeft p1 c165) fun v204 c205 =>
                            gd (R32 v204 ∧ R32 (v109 - 1)) <|
                            bq (v204 = (v109 - 1)) (
                              k184 c205) (
                              k169 c205))) (
                          k169 c165)) fun k182 =>
                    bq (((v167 * v108) - (v107 * v168)) = 0) (
                      k182 1) (
                      k182 0)))) (
                k121 c165)) (
              k121 c165)) (
            k121 c163)) (
          k121 c120)) (
        gd (R32 v109) <|
        bq (v109 = 0) (
          cl (f_L_changes p1 7 0 0 0 p2 c110) fun v206 c207 =>
          gd (R32 v206) <|
          bq (v206 = 3) (
            cv (f_X8_pivots p1 c207) fun v208 =>
            gd (R32 v208 ∧ R32 v111) <|
            bq (v208 = v111) (
              some ((1 : Int), c207)) (
              some ((0 : Int), c207))) (
            some ((0 : Int), c207))) (
          some ((0 : Int), c110)))) (
      k2 ())) (
    k2 ())
end NF
