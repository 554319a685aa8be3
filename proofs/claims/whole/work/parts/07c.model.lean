theorem isPart2_nat {many : Nat → Nat} {r : Nat} {i n : Int32} (hm : many r ≤ 40) (h : ¬ f_Model_isPart many r i n = 0) : ∃ k, k ≤ 40 ∧ n = nI k := by
  unfold f_Model_isPart at h
  by_cases c1 : i < 0
  · rw [if_pos c1] at h; exact absurd rfl h
  · rw [if_neg c1] at h
    by_cases c2 : n < (0 : Int32)
    · rw [if_pos c2] at h; exact absurd rfl h
    · rw [if_neg c2] at h
      by_cases c3 : nI (many r) < i
      · rw [if_pos c3] at h; exact absurd rfl h
      · rw [if_neg c3] at h
        obtain ⟨j, hj, rfl⟩ := le_nat c1 c3
        rw [pk_sub hj] at h
        by_cases c4 : nI (many r - j) < n
        · rw [if_pos c4] at h; exact absurd rfl h
        · obtain ⟨k, hk, rfl⟩ := le_nat c2 c4
          exact ⟨k, by omega, rfl⟩
theorem in8_nat {v : Int32} (h : ¬ f_Model_in v 0 8 = 0) (h7 : v < 7) : ∃ k, k < 7 ∧ v = nI k := by
  obtain ⟨k, hk, rfl⟩ := inC_nat (N := 8) (c := 8) rfl (by decide) h
  exact ⟨k, nI_ltX (b := 7) h7 (by omega) (by omega), rfl⟩
theorem what_in {v : Int32} {H : Nat} (hH : H ≤ 6) (h : ¬ f_Model_in v (-2) (nI H - 1) = 0) (h2 : ¬ v = -2) (h1 : ¬ v = -1) : ∃ k, k < H ∧ v = nI k := by
  refine in_nat (by omega) (fun e => h ?_)
  unfold f_Model_in at e ⊢
  by_cases c1 : v < -2
  · rw [if_pos c1]
  · rw [if_neg c1]
    by_cases c0 : v < 0
    · exfalso
      rw [Int32.lt_iff_toInt_lt] at c0 c1
      have a : ¬ v.toInt = -2 := i32_ne h2
      have b : ¬ v.toInt = -1 := i32_ne h1
      have d : (-2 : Int32).toInt = -2 := by decide
      have g : (0 : Int32).toInt = 0 := by decide
      omega
    · rw [if_neg c0] at e
      exact e

def f_Model_unit (W : Nat → Nat → Int32) (u : Int32) (wh : Int32) (U : Nat) (Hh : Nat) : Int32 := (if (f_Model_isUnit u U) = (0 : Int32) then (-1000001 : Int32) else (if (f_Model_in wh (0 : Int32) (8 : Int32)) = (0 : Int32) then (-1000001 : Int32) else (if wh < (7 : Int32) then (W 0) (((9 + (8 * (u.toNatClampNeg))) + 1) + (wh.toNatClampNeg)) else (if wh = (7 : Int32) then (f_Model_startsOf ((W 0) ((9 + (8 * (u.toNatClampNeg))) + 7)) Hh) else if (f_Model_keeps (W 0) (u.toNatClampNeg) ((W 0) ((9 + (8 * (u.toNatClampNeg))) + 7)) Hh) = (0 : Int32) then (0 : Int32) else (1 : Int32)))))
set_option maxRecDepth 20000 in
set_option maxHeartbeats 4000000 in
theorem c_Model_unit {G : mG} {h : mHp} {b : Nat} {lane : Nat → Int32} {many : Nat → Nat} {items : Nat → Int32} {spare : Nat → Int32} {stat : Int32} {tape : Nat → Int32} {taped : Nat} {fk : Int32} {fp : Int32} {mat : Nat} {mst : Nat} {tok : Int32} {mval : Int32} {W : Nat → Nat → Int32} {past : Nat → Int32} {nac : Nat} {imgs : Nat → Int32} {kept : Nat → Int32} {gvn : Nat → Int32} {costs : Nat → Int32} {lst : Nat → Int32} {sets : Nat → Int32} {bst : Int32} {mlo : Int64} {mal : Int32} {mpr : Nat → Int64} {lak : Nat → Int64} {trc : Nat → Int32} {ntr : Nat} {u : Int32} {wh : Int32} {U : Nat} {Hh : Nat} (hv_b : isV h b (modL b lane many items spare stat tape taped fk fp mat mst tok mval W past nac imgs kept gvn costs lst sets bst mlo mal mpr lak trc ntr))  (h0 : W 0 0 = nI U) (hU : U ≤ 4) (h1 : W 0 1 = nI Hh) (hH : Hh ≤ 6) : Ret G 3 mX8_unit [.ref b, .int u, .int wh] h (some (.int (f_Model_unit W u wh U Hh))) h := by
  generalize hf : f_Model_unit W u wh U Hh = R
  unfold f_Model_unit at hf
  refine Ret.of [(0, .ref b), (1, .int u), (2, .int wh)] (by decide) (Nat.le_of_ble_eq_true rfl) rfl ?_
  rintro Z rfl X Y
  refine r_aload_n X 0 dX8_unit_0 rfl ?_
  refine r_iload_n X 1 dX8_unit_1 rfl ?_
  refine cl_X8_220 X (by decide) dX8_unit_2 (Nat.le_of_ble_eq_true rfl) (hv_b 0 _ rfl) (c_Model_isUnit hv_b (by first | assumption | omega) (by first | assumption | omega)) ?_
  refine r_if_eq X 18 dX8_unit_5 rfl (fun cu => ?_) (fun cu => ?_)
  · rw [if_pos cu] at hf
    refine r_ldc X dX8_unit_18 kk_X8_80 ?_
    try subst hf
    exact r_ireturn X Y dX8_unit_20 rfl rfl
  · rw [if_neg cu] at hf
    obtain ⟨k, hk, rfl⟩ := isUnit_nat hU cu
    try simp only [nI_clamp (show k < 2 ^ 31 by omega)] at hf
    refine r_iload_n X 2 dX8_unit_8 rfl ?_
    refine r_iconst X (0 : Int32) dX8_unit_9 (by decide) ?_
    refine r_bipush X (8 : Int32) dX8_unit_10 (by decide) ?_
    refine cl_X8_72 X (by decide) dX8_unit_12 (Nat.le_of_ble_eq_true rfl) (c_Model_in  ) ?_
    refine r_if_ne X 21 dX8_unit_15 rfl (fun cw => ?_) (fun cw => ?_)
    · rw [if_neg cw] at hf
      refine r_aload_n X 0 dX8_unit_21 rfl ?_
      refine gf_X8_25 X dX8_unit_22 (hv_b 0 _ rfl) rfl ?_
      refine r_bipush X (9 : Int32) dX8_unit_25 (by decide) ?_
      refine r_bipush X (8 : Int32) dX8_unit_27 (by decide) ?_
      refine r_iload_n X 1 dX8_unit_29 rfl ?_
      refine r_imuln X (a := 8) (b := k) dX8_unit_30 ?_
      refine r_iaddn X (a := 9) (b := 8 * k) dX8_unit_31 ?_
      refine r_bipush X (7 : Int32) dX8_unit_32 (by decide) ?_
      refine r_iaddn X (a := 9 + (8 * k)) (b := 7) dX8_unit_34 ?_
      refine r_ialdn X (k0 := (9 + (8 * k)) + 7) dX8_unit_35 (hv_b (6 + 0) _ (modL_W (by omega))) (by omega) (by decide) ?_
      refine r_istore_n [(0, .ref b), (1, .int (nI k)), (2, .int wh), (3, .int ((W 0) ((9 + (8 * k)) + 7)))] X dX8_unit_36 rfl (by decide) rfl ?_
      refine r_iload_n X 2 dX8_unit_37 rfl ?_
      refine r_bipush X (7 : Int32) dX8_unit_38 (by decide) ?_
      refine r_icmp_ge X 62 dX8_unit_40 rfl (fun c7 => ?_) (fun c7 => ?_)
      · rw [if_neg c7] at hf
        refine r_iload_n X 2 dX8_unit_62 rfl ?_
        refine r_bipush X (7 : Int32) dX8_unit_63 (by decide) ?_
        refine r_icmp_ne X 79 dX8_unit_65 rfl (fun c1 => ?_) (fun c1 => ?_)
        · rw [if_neg c1] at hf
          refine r_aload_n X 0 dX8_unit_79 rfl ?_
          refine gf_X8_25 X dX8_unit_80 (hv_b 0 _ rfl) rfl ?_
          refine r_iload_n X 1 dX8_unit_83 rfl ?_
          refine r_iload_n X 3 dX8_unit_84 rfl ?_
          refine cl_X8_242 X (by decide) dX8_unit_85 (Nat.le_of_ble_eq_true rfl) (c_Model_keeps (isV1 (hv_b (6 + 0) _ (modL_W (by omega)))) (by first | assumption | omega) (by first | assumption | omega) (by first | assumption | omega)) ?_
          refine m_join (P := SW Z 96 [] [.int (if (f_Model_keeps (W 0) k ((W 0) ((9 + (8 * k)) + 7)) Hh) = (0 : Int32) then (0 : Int32) else (1 : Int32))] h) (fun K => ?_) ?_
          · refine r_if_eq X 95 dX8_unit_88 rfl (fun c2 => ?_) (fun c2 => ?_)
            · skip
              refine r_iconst X (0 : Int32) dX8_unit_95 (by decide) ?_
              refine SW.pick [] [] rfl ?_
              try simp only [if_pos c2] at K ⊢
              exact K
            · skip
              refine r_iconst X (1 : Int32) dX8_unit_91 (by decide) ?_
              refine r_goto X 96 dX8_unit_92 rfl ?_
              refine SW.pick [] [] rfl ?_
              try simp only [if_neg c2] at K ⊢
              exact K
          try subst hf
          exact r_ireturn X Y dX8_unit_96 rfl rfl
        · rw [if_pos c1] at hf
          refine r_aload_n X 0 dX8_unit_68 rfl ?_
          refine gf_X8_25 X dX8_unit_69 (hv_b 0 _ rfl) rfl ?_
          refine r_iload_n X 3 dX8_unit_72 rfl ?_
          refine cl_X8_239 X (by decide) dX8_unit_73 (Nat.le_of_ble_eq_true rfl) (c_Model_startsOf (isV1 (hv_b (6 + 0) _ (modL_W (by omega)))) (by first | assumption | omega) (by first | assumption | omega)) ?_
          refine r_goto X 96 dX8_unit_76 rfl ?_
          try subst hf
          exact r_ireturn X Y dX8_unit_96 rfl rfl
      · rw [if_pos c7] at hf
        obtain ⟨kw, hkw, rfl⟩ := in8_nat cw c7
        try simp only [nI_clamp (show kw < 2 ^ 31 by omega)] at hf
        refine r_aload_n X 0 dX8_unit_43 rfl ?_
        refine gf_X8_25 X dX8_unit_44 (hv_b 0 _ rfl) rfl ?_
        refine r_bipush X (9 : Int32) dX8_unit_47 (by decide) ?_
        refine r_bipush X (8 : Int32) dX8_unit_49 (by decide) ?_
        refine r_iload_n X 1 dX8_unit_51 rfl ?_
        refine r_imuln X (a := 8) (b := k) dX8_unit_52 ?_
        refine r_iaddn X (a := 9) (b := 8 * k) dX8_unit_53 ?_
        refine r_iconst X (1 : Int32) dX8_unit_54 (by decide) ?_
        refine r_iaddn X (a := 9 + (8 * k)) (b := 1) dX8_unit_55 ?_
        refine r_iload_n X 2 dX8_unit_56 rfl ?_
        refine r_iaddn X (a := (9 + (8 * k)) + 1) (b := kw) dX8_unit_57 ?_
        refine r_ialdn X (k0 := ((9 + (8 * k)) + 1) + kw) dX8_unit_58 (hv_b (6 + 0) _ (modL_W (by omega))) (by omega) (by decide) ?_
        refine r_goto X 96 dX8_unit_59 rfl ?_
        try subst hf
        exact r_ireturn X Y dX8_unit_96 rfl rfl
    · rw [if_pos cw] at hf
      refine r_ldc X dX8_unit_18 kk_X8_80 ?_
      try subst hf
      exact r_ireturn X Y dX8_unit_20 rfl rfl

def f_Model_alone_L77s (items : Nat → Int32) (n2 : Nat) (n3 : Nat) (k77 : Nat) (mpr : Nat → Int64) : (Nat → Int64) := vp_updL mpr k77 ((items (((40 * n2) + n3) + k77)).toInt64)
def f_Model_alone_L77 (items : Nat → Int32) (n2 : Nat) (n3 : Nat) (mpr : Nat → Int64) : Nat → (Nat → Int64)
  | 0 => mpr
  | k77 + 1 => f_Model_alone_L77s items n2 n3 k77 (f_Model_alone_L77 items n2 n3 mpr k77)
def f_Model_alone (lane : Nat → Int32) (many : Nat → Nat) (items : Nat → Int32) (stat : Int32) (W : Nat → Nat → Int32) (mlo : Int64) (mal : Int32) (mpr : Nat → Int64) (u : Int32) (row : Int32) (i : Int32) (wh : Int32) (U : Nat) (Hh : Nat) : Int64 × Int32 × Int64 × Int32 × (Nat → Int64) := (if (f_Model_isUnit u U) = (0 : Int32) then ((-1000001 : Int64), stat, mlo, mal, mpr) else (if (f_Model_isRow row) = (0 : Int32) then ((-1000001 : Int64), stat, mlo, mal, mpr) else (if (f_Model_in wh (-2 : Int32) ((nI Hh) - (1 : Int32))) = (0 : Int32) then ((-1000001 : Int64), stat, mlo, mal, mpr) else (if (f_Model_isMissing lane (row.toNatClampNeg)) = (0 : Int32) then (if (f_Model_isPart many (row.toNatClampNeg) i (nI Hh)) = (0 : Int32) then ((fun q2 => (q2.1.toInt64, q2.2, mlo, mal, mpr)) (f_Model_found (2 : Int32))) else ((fun q1 => (if wh = (-2 : Int32) then (q1.1, (0 : Int32), q1.1, q1.2, (f_Model_alone_L77 items (row.toNatClampNeg) (i.toNatClampNeg) mpr Hh)) else (if wh = (-1 : Int32) then (q1.2.toInt64, (0 : Int32), q1.1, q1.2, (f_Model_alone_L77 items (row.toNatClampNeg) (i.toNatClampNeg) mpr Hh)) else ((f_Model_givesAlone (W 0) (u.toNatClampNeg) q1.2 (nI (wh.toNatClampNeg)) ((f_Model_alone_L77 items (row.toNatClampNeg) (i.toNatClampNeg) mpr Hh) (wh.toNatClampNeg))), (0 : Int32), q1.1, q1.2, (f_Model_alone_L77 items (row.toNatClampNeg) (i.toNatClampNeg) mpr Hh))))) (f_Model_goesAlone W mlo mal (f_Model_alone_L77 items (row.toNatClampNeg) (i.toNatClampNeg) mpr Hh) (u.toNatClampNeg) 0 Hh))) else ((fun q3 => (q3.1.toInt64, q3.2, mlo, mal, mpr)) (f_Model_found (1 : Int32)))))))
set_option maxRecDepth 20000 in
set_option maxHeartbeats 4000000 in
theorem c_Model_alone {G : mG} {h : mHp} {b : Nat} {lane : Nat → Int32} {many : Nat → Nat} {items : Nat → Int32} {spare : Nat → Int32} {stat : Int32} {tape : Nat → Int32} {taped : Nat} {fk : Int32} {fp : Int32} {mat : Nat} {mst : Nat} {tok : Int32} {mval : Int32} {W : Nat → Nat → Int32} {past : Nat → Int32} {nac : Nat} {imgs : Nat → Int32} {kept : Nat → Int32} {gvn : Nat → Int32} {costs : Nat → Int32} {lst : Nat → Int32} {sets : Nat → Int32} {bst : Int32} {mlo : Int64} {mal : Int32} {mpr : Nat → Int64} {lak : Nat → Int64} {trc : Nat → Int32} {ntr : Nat} {u : Int32} {row : Int32} {i : Int32} {wh : Int32} {U : Nat} {Hh : Nat}   (h0 : W 0 0 = nI U) (hU : U ≤ 4) (h1 : W 0 1 = nI Hh) (hH : Hh ≤ 6) (hm : ∀ j, j < 8 → many j ≤ 40) : Ret G 4 mX8_alone [.ref b, .int u, .int row, .int i, .int wh] (ov h b (modL b lane many items spare stat tape taped fk fp mat mst tok mval W past nac imgs kept gvn costs lst sets bst mlo mal mpr lak trc ntr)) (some (.long (f_Model_alone lane many items stat W mlo mal mpr u row i wh U Hh).1)) (ov h b (modL b lane many items spare (f_Model_alone lane many items stat W mlo mal mpr u row i wh U Hh).2.1 tape taped fk fp mat mst tok mval W past nac imgs kept gvn costs lst sets bst (f_Model_alone lane many items stat W mlo mal mpr u row i wh U Hh).2.2.1 (f_Model_alone lane many items stat W mlo mal mpr u row i wh U Hh).2.2.2.1 (f_Model_alone lane many items stat W mlo mal mpr u row i wh U Hh).2.2.2.2 lak trc ntr)) := by
  generalize hf : f_Model_alone lane many items stat W mlo mal mpr u row i wh U Hh = R
  unfold f_Model_alone at hf
  refine Ret.of [(0, .ref b), (1, .int u), (2, .int row), (3, .int i), (4, .int wh)] (by decide) (Nat.le_of_ble_eq_true rfl) rfl ?_
  rintro Z rfl X Y
  have hv_b : isV (ov h b (modL b lane many items spare stat tape taped fk fp mat mst tok mval W past nac imgs kept gvn costs lst sets bst mlo mal mpr lak trc ntr)) b (modL b lane many items spare stat tape taped fk fp mat mst tok mval W past nac imgs kept gvn costs lst sets bst mlo mal mpr lak trc ntr) := ov_isV
  refine r_aload_n X 0 dX8_alone_0 rfl ?_
  refine r_iload_n X 1 dX8_alone_1 rfl ?_
  refine cl_X8_220 X (by decide) dX8_alone_2 (Nat.le_of_ble_eq_true rfl) (hv_b 0 _ rfl) (c_Model_isUnit hv_b (by first | assumption | omega) (by first | assumption | omega)) ?_
  refine r_if_eq X 33 dX8_alone_5 rfl (fun cu => ?_) (fun cu => ?_)
  · rw [if_pos cu] at hf
    refine r_ldc2 X dX8_alone_33 kk_X8_270 ?_
    try subst hf
    exact r_lreturn X Y dX8_alone_36 rfl rfl
  · rw [if_neg cu] at hf
    obtain ⟨k, hk, rfl⟩ := isUnit_nat hU cu
    try simp only [nI_clamp (show k < 2 ^ 31 by omega)] at hf
    refine r_iload_n X 2 dX8_alone_8 rfl ?_
    refine cl_X8_76 X (by decide) dX8_alone_9 (Nat.le_of_ble_eq_true rfl) (c_Model_isRow  ) ?_
    refine r_if_eq X 33 dX8_alone_12 rfl (fun cr => ?_) (fun cr => ?_)
    · rw [if_pos cr] at hf
      refine r_ldc2 X dX8_alone_33 kk_X8_270 ?_
      try subst hf
      exact r_lreturn X Y dX8_alone_36 rfl rfl
    · rw [if_neg cr] at hf
      obtain ⟨r, hr, rfl⟩ := isRow_nat cr
      try simp only [nI_clamp (show r < 2 ^ 31 by omega)] at hf
      refine r_iload X 4 dX8_alone_15 rfl ?_
      refine r_bipush X (-2 : Int32) dX8_alone_17 (by decide) ?_
      refine r_aload_n X 0 dX8_alone_19 rfl ?_
      refine gf_X8_25 X dX8_alone_20 (hv_b 0 _ rfl) rfl ?_
      refine r_iconst X (1 : Int32) dX8_alone_23 (by decide) ?_
      refine r_ialdv X (v := nI Hh) (k0 := 1) dX8_alone_24 (hv_b (6 + 0) _ (modL_W (by omega))) (by omega) (by decide) h1 ?_
      refine r_iconst X (1 : Int32) dX8_alone_25 (by decide) ?_
      refine r_isub X dX8_alone_26 ?_
      refine cl_X8_72 X (by decide) dX8_alone_27 (Nat.le_of_ble_eq_true rfl) (c_Model_in  ) ?_
      refine r_if_ne X 37 dX8_alone_30 rfl (fun cw => ?_) (fun cw => ?_)
      · rw [if_neg cw] at hf
        refine r_aload_n X 0 dX8_alone_37 rfl ?_
        refine r_iload_n X 2 dX8_alone_38 rfl ?_
        refine cl_X8_88 X (by decide) dX8_alone_39 (Nat.le_of_ble_eq_true rfl) (hv_b 0 _ rfl) (c_Model_isMissing hv_b (by first | assumption | omega)) ?_
        refine r_if_eq X 52 dX8_alone_42 rfl (fun c1 => ?_) (fun c1 => ?_)
        · rw [if_pos c1] at hf
          refine r_aload_n X 0 dX8_alone_52 rfl ?_
          refine r_iload_n X 2 dX8_alone_53 rfl ?_
          refine r_iload_n X 3 dX8_alone_54 rfl ?_
          refine r_aload_n X 0 dX8_alone_55 rfl ?_
          refine gf_X8_25 X dX8_alone_56 (hv_b 0 _ rfl) rfl ?_
          refine r_iconst X (1 : Int32) dX8_alone_59 (by decide) ?_
          refine r_ialdv X (v := nI Hh) (k0 := 1) dX8_alone_60 (hv_b (6 + 0) _ (modL_W (by omega))) (by omega) (by decide) h1 ?_
          refine cl_X8_95 X (by decide) dX8_alone_61 (Nat.le_of_ble_eq_true rfl) (hv_b 0 _ rfl) (c_Model_isPart hv_b (by first | assumption | omega)) ?_
          refine r_if_ne X 74 dX8_alone_64 rfl (fun cp => ?_) (fun cp => ?_)
          · rw [if_neg cp] at hf
            obtain ⟨j, hj, rfl⟩ := isPart_nat (hm _ hr) (by omega) cp
            have hmr := hm _ hr
            try simp only [nI_clamp (show j < 2 ^ 31 by omega)] at hf
            refine r_iconst X (0 : Int32) dX8_alone_74 (by decide) ?_
            refine r_istore [(0, .ref b), (1, .int (nI k)), (2, .int (nI r)), (3, .int (nI j)), (4, .int wh), (5, .int (0 : Int32))] X dX8_alone_75 (by decide) rfl ?_
            refine loop_up (P := fun k2 => SW Z 77 [(0, .ref b), (1, .int (nI k)), (2, .int (nI r)), (3, .int (nI j)), (4, .int wh), (5, .int (nI k2))] [] (ov h b (modL b lane many items spare stat tape taped fk fp mat mst tok mval W past nac imgs kept gvn costs lst sets bst mlo mal (f_Model_alone_L77 items r j mpr k2) lak trc ntr))) Hh ?_ ?_ 0 (Nat.zero_le _)
            rotate_left
            · intro k2 hk2 ih
              have hv_b : isV (ov h b (modL b lane many items spare stat tape taped fk fp mat mst tok mval W past nac imgs kept gvn costs lst sets bst mlo mal (f_Model_alone_L77 items r j mpr k2) lak trc ntr)) b (modL b lane many items spare stat tape taped fk fp mat mst tok mval W past nac imgs kept gvn costs lst sets bst mlo mal (f_Model_alone_L77 items r j mpr k2) lak trc ntr) := ov_isV
              refine r_iload X 5 dX8_alone_77 rfl ?_
              refine r_aload_n X 0 dX8_alone_79 rfl ?_
              refine gf_X8_25 X dX8_alone_80 (hv_b 0 _ rfl) rfl ?_
              refine r_iconst X (1 : Int32) dX8_alone_83 (by decide) ?_
              refine r_ialdv X (v := nI Hh) (k0 := 1) dX8_alone_84 (hv_b (6 + 0) _ (modL_W (by omega))) (by omega) (by decide) h1 ?_
              refine r_icmp_ge X 116 dX8_alone_85 rfl (fun z => absurd (nI_lt (a := k2) (b := Hh) (by omega) (by omega)) z) (fun _ => ?_)
              refine r_aload_n X 0 dX8_alone_88 rfl ?_
              refine gf_X8_56 X dX8_alone_89 (hv_b 0 _ rfl) rfl ?_
              refine r_iload X 5 dX8_alone_92 rfl ?_
              refine r_aload_n X 0 dX8_alone_94 rfl ?_
              refine gf_X8_16 X dX8_alone_95 (hv_b 0 _ rfl) rfl ?_
              refine r_bipush X (40 : Int32) dX8_alone_98 (by decide) ?_
              refine r_iload_n X 2 dX8_alone_100 rfl ?_
              refine r_imuln X (a := 40) (b := r) dX8_alone_101 ?_
              refine r_iload_n X 3 dX8_alone_102 rfl ?_
              refine r_iaddn X (a := 40 * r) (b := j) dX8_alone_103 ?_
              refine r_iload X 5 dX8_alone_104 rfl ?_
              refine r_iaddn X (a := (40 * r) + j) (b := k2) dX8_alone_106 ?_
              refine r_ialdn X (k0 := ((40 * r) + j) + k2) dX8_alone_107 (hv_b 3 _ rfl) (by omega) (by decide) ?_
              refine r_i2l X dX8_alone_108 ?_
              refine r_lastn X (k0 := k2) dX8_alone_109 (hv_b 16 _ rfl) (by omega) (by first | decide | omega) ?_
              refine SW.heq (h2 := (ov h b (modL b lane many items spare stat tape taped fk fp mat mst tok mval W past nac imgs kept gvn costs lst sets bst mlo mal (vp_updL (f_Model_alone_L77 items r j mpr k2) k2 ((items (((40 * r) + j) + k2)).toInt64)) lak trc ntr))) (ov_up 16 (Nat.le_of_ble_eq_true rfl) rfl) ?_
              have hv_b : isV (ov h b (modL b lane many items spare stat tape taped fk fp mat mst tok mval W past nac imgs kept gvn costs lst sets bst mlo mal (vp_updL (f_Model_alone_L77 items r j mpr k2) k2 ((items (((40 * r) + j) + k2)).toInt64)) lak trc ntr)) b (modL b lane many items spare stat tape taped fk fp mat mst tok mval W past nac imgs kept gvn costs lst sets bst mlo mal (vp_updL (f_Model_alone_L77 items r j mpr k2) k2 ((items (((40 * r) + j) + k2)).toInt64)) lak trc ntr) := ov_isV
              refine r_iinc [(0, .ref b), (1, .int (nI k)), (2, .int (nI r)), (3, .int (nI j)), (4, .int wh), (5, .int (nI (k2 + 1)))] X (nI (k2 + 1)) 5 dX8_alone_110 rfl (nI_succ _).symm (by decide) rfl ?_
              refine r_goto X 77 dX8_alone_113 rfl ?_
              exact ih
            have hv_b : isV (ov h b (modL b lane many items spare stat tape taped fk fp mat mst tok mval W past nac imgs kept gvn costs lst sets bst mlo mal (f_Model_alone_L77 items r j mpr Hh) lak trc ntr)) b (modL b lane many items spare stat tape taped fk fp mat mst tok mval W past nac imgs kept gvn costs lst sets bst mlo mal (f_Model_alone_L77 items r j mpr Hh) lak trc ntr) := ov_isV
            refine r_iload X 5 dX8_alone_77 rfl ?_
            refine r_aload_n X 0 dX8_alone_79 rfl ?_
            refine gf_X8_25 X dX8_alone_80 (hv_b 0 _ rfl) rfl ?_
            refine r_iconst X (1 : Int32) dX8_alone_83 (by decide) ?_
            refine r_ialdv X (v := nI Hh) (k0 := 1) dX8_alone_84 (hv_b (6 + 0) _ (modL_W (by omega))) (by omega) (by decide) h1 ?_
            refine r_icmp_ge X 116 dX8_alone_85 rfl (fun _ => ?_) (fun z => absurd z (nI_nlt (a := Hh) (b := Hh) (by omega) (by omega)))
            refine r_aload_n X 0 dX8_alone_116 rfl ?_
            refine r_aload_n X 0 dX8_alone_117 rfl ?_
            refine gf_X8_25 X dX8_alone_118 (hv_b 0 _ rfl) rfl ?_
            refine r_iload_n X 1 dX8_alone_121 rfl ?_
            refine cl_X8_272 X (by decide) dX8_alone_122 (Nat.le_of_ble_eq_true rfl) (hv_b 0 _ rfl) (c_Model_goesAlone  (by first | assumption | omega) (by first | assumption | omega) (by first | assumption | omega) (by first | assumption | omega)) ?_
            obtain ⟨q1, eq1⟩ : ∃ q, q = f_Model_goesAlone W mlo mal (f_Model_alone_L77 items r j mpr Hh) k 0 Hh := ⟨_, rfl⟩
            rw [← eq1]
            rw [← eq1] at hf
            try dsimp only at hf
            have hv_b : isV (ov h b (modL b lane many items spare stat tape taped fk fp mat mst tok mval W past nac imgs kept gvn costs lst sets bst q1.1 q1.2 (f_Model_alone_L77 items r j mpr Hh) lak trc ntr)) b (modL b lane many items spare stat tape taped fk fp mat mst tok mval W past nac imgs kept gvn costs lst sets bst q1.1 q1.2 (f_Model_alone_L77 items r j mpr Hh) lak trc ntr) := ov_isV
            refine r_aload_n X 0 dX8_alone_125 rfl ?_
            refine r_iconst X (0 : Int32) dX8_alone_126 (by decide) ?_
            refine pf_X8_67 X dX8_alone_127 (hv_b 0 _ rfl) (Nat.le_of_ble_eq_true rfl) ?_
            refine SW.heq (h2 := (ov h b (modL b lane many items spare (0 : Int32) tape taped fk fp mat mst tok mval W past nac imgs kept gvn costs lst sets bst q1.1 q1.2 (f_Model_alone_L77 items r j mpr Hh) lak trc ntr))) (ov_up 0 (Nat.le_of_ble_eq_true rfl) rfl) ?_
            have hv_b : isV (ov h b (modL b lane many items spare (0 : Int32) tape taped fk fp mat mst tok mval W past nac imgs kept gvn costs lst sets bst q1.1 q1.2 (f_Model_alone_L77 items r j mpr Hh) lak trc ntr)) b (modL b lane many items spare (0 : Int32) tape taped fk fp mat mst tok mval W past nac imgs kept gvn costs lst sets bst q1.1 q1.2 (f_Model_alone_L77 items r j mpr Hh) lak trc ntr) := ov_isV
            refine r_iload X 4 dX8_alone_130 rfl ?_
            refine r_bipush X (-2 : Int32) dX8_alone_132 (by decide) ?_
            refine r_icmp_ne X 144 dX8_alone_134 rfl (fun ca => ?_) (fun ca => ?_)
            · rw [if_neg ca] at hf
              refine r_iload X 4 dX8_alone_144 rfl ?_
              refine r_iconst X (-1 : Int32) dX8_alone_146 (by decide) ?_
              refine r_icmp_ne X 158 dX8_alone_147 rfl (fun cb => ?_) (fun cb => ?_)
              · rw [if_neg cb] at hf
                obtain ⟨kw, hkw, rfl⟩ := what_in hH cw ca cb
                try simp only [nI_clamp (show kw < 2 ^ 31 by omega)] at hf
                refine r_aload_n X 0 dX8_alone_158 rfl ?_
                refine gf_X8_25 X dX8_alone_159 (hv_b 0 _ rfl) rfl ?_
                refine r_iload_n X 1 dX8_alone_162 rfl ?_
                refine r_aload_n X 0 dX8_alone_163 rfl ?_
                refine gf_X8_267 X dX8_alone_164 (hv_b 0 _ rfl) rfl ?_
                refine r_iload X 4 dX8_alone_167 rfl ?_
                refine r_aload_n X 0 dX8_alone_169 rfl ?_
                refine gf_X8_56 X dX8_alone_170 (hv_b 0 _ rfl) rfl ?_
                refine r_iload X 4 dX8_alone_173 rfl ?_
                refine r_laldn X (k0 := kw) dX8_alone_175 (hv_b 16 _ rfl) (by omega) (by decide) ?_
                refine cl_X8_259 X (by decide) dX8_alone_176 (Nat.le_of_ble_eq_true rfl) (c_Model_givesAlone (isV1 (hv_b (6 + 0) _ (modL_W (by omega)))) (by first | assumption | omega)) ?_
                try subst hf
                exact r_lreturn X Y dX8_alone_179 rfl rfl
              · rw [if_pos cb] at hf
                refine r_aload_n X 0 dX8_alone_150 rfl ?_
                refine gf_X8_267 X dX8_alone_151 (hv_b 0 _ rfl) rfl ?_
                refine r_i2l X dX8_alone_154 ?_
                refine r_goto X 179 dX8_alone_155 rfl ?_
                try subst hf
                exact r_lreturn X Y dX8_alone_179 rfl rfl
            · rw [if_pos ca] at hf
              refine r_aload_n X 0 dX8_alone_137 rfl ?_
              refine gf_X8_263 X dX8_alone_138 (hv_b 0 _ rfl) rfl ?_
              refine r_goto X 179 dX8_alone_141 rfl ?_
              try subst hf
              exact r_lreturn X Y dX8_alone_179 rfl rfl
          · rw [if_pos cp] at hf
            refine r_aload_n X 0 dX8_alone_67 rfl ?_
            refine r_iconst X (2 : Int32) dX8_alone_68 (by decide) ?_
            refine cl_X8_81 X (by decide) dX8_alone_69 (Nat.le_of_ble_eq_true rfl) (hv_b 0 _ rfl) (c_Model_found  ) ?_
            obtain ⟨q2, eq2⟩ : ∃ q, q = f_Model_found (2 : Int32) := ⟨_, rfl⟩
            rw [← eq2]
            rw [← eq2] at hf
            try dsimp only at hf
            have hv_b : isV (ov h b (modL b lane many items spare q2.2 tape taped fk fp mat mst tok mval W past nac imgs kept gvn costs lst sets bst mlo mal mpr lak trc ntr)) b (modL b lane many items spare q2.2 tape taped fk fp mat mst tok mval W past nac imgs kept gvn costs lst sets bst mlo mal mpr lak trc ntr) := ov_isV
            refine r_i2l X dX8_alone_72 ?_
            try subst hf
            exact r_lreturn X Y dX8_alone_73 rfl rfl
        · rw [if_neg c1] at hf
          refine r_aload_n X 0 dX8_alone_45 rfl ?_
          refine r_iconst X (1 : Int32) dX8_alone_46 (by decide) ?_
          refine cl_X8_81 X (by decide) dX8_alone_47 (Nat.le_of_ble_eq_true rfl) (hv_b 0 _ rfl) (c_Model_found  ) ?_
          obtain ⟨q3, eq3⟩ : ∃ q, q = f_Model_found (1 : Int32) := ⟨_, rfl⟩
          rw [← eq3]
          rw [← eq3] at hf
          try dsimp only at hf
          have hv_b : isV (ov h b (modL b lane many items spare q3.2 tape taped fk fp mat mst tok mval W past nac imgs kept gvn costs lst sets bst mlo mal mpr lak trc ntr)) b (modL b lane many items spare q3.2 tape taped fk fp mat mst tok mval W past nac imgs kept gvn costs lst sets bst mlo mal mpr lak trc ntr) := ov_isV
          refine r_i2l X dX8_alone_50 ?_
          try subst hf
          exact r_lreturn X Y dX8_alone_51 rfl rfl
      · rw [if_pos cw] at hf
        refine r_ldc2 X dX8_alone_33 kk_X8_270 ?_
        try subst hf
        exact r_lreturn X Y dX8_alone_36 rfl rfl

def f_Model_readsHour (tape : Nat → Int32) (taped : Nat) (fk : Int32) (fp : Int32) (mat : Nat) (mst : Nat) (tok : Int32) (mval : Int32) (W : Nat → Nat → Int32) (Hd : Nat) : Int32 × Int32 × Nat × Nat × Int32 × Int32 × (Nat → Nat → Int32) := ((fun q1 => ((fun q2 => ((fun q3 => (if (f_Model_isWell q3.2.2.1) = (0 : Int32) then (q3.2.1, q3.2.2.1, q3.2.2.2.1, q3.2.2.2.2.1, q3.2.2.2.2.2.1, q3.2.2.2.2.2.2, W) else (q3.2.1, q3.2.2.1, q3.2.2.2.1, q3.2.2.2.2.1, q3.2.2.2.2.2.1, q3.2.2.2.2.2.2, va_up (va_up W 1 (upd (W 1) (3 + Hd) q2.1)) 1 (upd ((va_up W 1 (upd (W 1) (3 + Hd) q2.1)) 1) 1 (nI (Hd + 1)))))) (f_Model_takes tape taped q2.2.1 q2.2.2.1 q2.2.2.2.1 q2.2.2.2.2.1 q2.2.2.2.2.2.1 q2.2.2.2.2.2.2 (if q2.2.2.2.2.2.1 = (4 : Int32) then (1 : Int32) else (0 : Int32)) (1 : Int32)))) (f_Model_figure tape taped q1.2.1 q1.2.2.1 q1.2.2.2.1 q1.2.2.2.2.1 q1.2.2.2.2.2.1 q1.2.2.2.2.2.2 (0 : Int32) (60 : Int32)))) (f_Model_takes tape taped fk fp mat mst tok mval (if (nI Hd) < (6 : Int32) then (1 : Int32) else (0 : Int32)) (3 : Int32)))
set_option maxRecDepth 20000 in
set_option maxHeartbeats 4000000 in
theorem c_Model_readsHour {G : mG} {h : mHp} {b : Nat} {lane : Nat → Int32} {many : Nat → Nat} {items : Nat → Int32} {spare : Nat → Int32} {stat : Int32} {tape : Nat → Int32} {taped : Nat} {fk : Int32} {fp : Int32} {mat : Nat} {mst : Nat} {tok : Int32} {mval : Int32} {W : Nat → Nat → Int32} {past : Nat → Int32} {nac : Nat} {imgs : Nat → Int32} {kept : Nat → Int32} {gvn : Nat → Int32} {costs : Nat → Int32} {lst : Nat → Int32} {sets : Nat → Int32} {bst : Int32} {mlo : Int64} {mal : Int32} {mpr : Nat → Int64} {lak : Nat → Int64} {trc : Nat → Int32} {ntr : Nat} {Hd : Nat}   (ht : taped ≤ 120) (hma : mat ≤ taped) (hd1 : W 1 1 = nI Hd) (hHd : Hd ≤ 6) : Ret G 4 mX8_readsHour [.ref b] (ov h b (modL b lane many items spare stat tape taped fk fp mat mst tok mval W past nac imgs kept gvn costs lst sets bst mlo mal mpr lak trc ntr)) none (ov h b (modL b lane many items spare stat tape taped (f_Model_readsHour tape taped fk fp mat mst tok mval W Hd).1 (f_Model_readsHour tape taped fk fp mat mst tok mval W Hd).2.1 (f_Model_readsHour tape taped fk fp mat mst tok mval W Hd).2.2.1 (f_Model_readsHour tape taped fk fp mat mst tok mval W Hd).2.2.2.1 (f_Model_readsHour tape taped fk fp mat mst tok mval W Hd).2.2.2.2.1 (f_Model_readsHour tape taped fk fp mat mst tok mval W Hd).2.2.2.2.2.1 (f_Model_readsHour tape taped fk fp mat mst tok mval W Hd).2.2.2.2.2.2 past nac imgs kept gvn costs lst sets bst mlo mal mpr lak trc ntr)) := by
  generalize hf : f_Model_readsHour tape taped fk fp mat mst tok mval W Hd = R
  unfold f_Model_readsHour at hf
  refine Ret.of [(0, .ref b)] (by decide) (Nat.le_of_ble_eq_true rfl) rfl ?_
  rintro Z rfl X Y
  have hv_b : isV (ov h b (modL b lane many items spare stat tape taped fk fp mat mst tok mval W past nac imgs kept gvn costs lst sets bst mlo mal mpr lak trc ntr)) b (modL b lane many items spare stat tape taped fk fp mat mst tok mval W past nac imgs kept gvn costs lst sets bst mlo mal mpr lak trc ntr) := ov_isV
  refine r_aload_n X 0 dX8_readsHour_0 rfl ?_
  refine r_aload_n X 0 dX8_readsHour_1 rfl ?_
  refine gf_X8_28 X dX8_readsHour_2 (hv_b 0 _ rfl) rfl ?_
  refine r_iconst X (1 : Int32) dX8_readsHour_5 (by decide) ?_
  refine r_ialdv X (v := nI Hd) (k0 := 1) dX8_readsHour_6 (hv_b (6 + 1) _ (modL_W (by omega))) (by omega) (by decide) hd1 ?_
  refine r_bipush X (6 : Int32) dX8_readsHour_7 (by decide) ?_
  refine m_join (P := SW Z 17 [(0, .ref b)] [.int (if (nI Hd) < (6 : Int32) then (1 : Int32) else (0 : Int32)), .ref b] (ov h b (modL b lane many items spare stat tape taped fk fp mat mst tok mval W past nac imgs kept gvn costs lst sets bst mlo mal mpr lak trc ntr))) (fun K => ?_) ?_
  · refine r_icmp_ge X 16 dX8_readsHour_9 rfl (fun c1 => ?_) (fun c1 => ?_)
    · skip
      refine r_iconst X (0 : Int32) dX8_readsHour_16 (by decide) ?_
      try simp only [if_neg c1] at K ⊢
      exact K
    · skip
      refine r_iconst X (1 : Int32) dX8_readsHour_12 (by decide) ?_
      refine r_goto X 17 dX8_readsHour_13 rfl ?_
      try simp only [if_pos c1] at K ⊢
      exact K
  have hv_b : isV (ov h b (modL b lane many items spare stat tape taped fk fp mat mst tok mval W past nac imgs kept gvn costs lst sets bst mlo mal mpr lak trc ntr)) b (modL b lane many items spare stat tape taped fk fp mat mst tok mval W past nac imgs kept gvn costs lst sets bst mlo mal mpr lak trc ntr) := ov_isV
  refine r_iconst X (3 : Int32) dX8_readsHour_17 (by decide) ?_
  refine cl_X8_130 X (by decide) dX8_readsHour_18 (Nat.le_of_ble_eq_true rfl) (hv_b 0 _ rfl) (c_Model_takes  (by first | assumption | omega) (by first | assumption | omega)) ?_
  obtain ⟨q1, eq1⟩ : ∃ q, q = f_Model_takes tape taped fk fp mat mst tok mval (if (nI Hd) < (6 : Int32) then (1 : Int32) else (0 : Int32)) (3 : Int32) := ⟨_, rfl⟩
  rw [← eq1]
  rw [← eq1] at hf
  try dsimp only at hf
  have hma_q1 : q1.2.2.2.1 ≤ taped := by rw [eq1]; exact takes_post (by assumption) (by assumption)
  have hv_b : isV (ov h b (modL b lane many items spare stat tape taped q1.2.1 q1.2.2.1 q1.2.2.2.1 q1.2.2.2.2.1 q1.2.2.2.2.2.1 q1.2.2.2.2.2.2 W past nac imgs kept gvn costs lst sets bst mlo mal mpr lak trc ntr)) b (modL b lane many items spare stat tape taped q1.2.1 q1.2.2.1 q1.2.2.2.1 q1.2.2.2.2.1 q1.2.2.2.2.2.1 q1.2.2.2.2.2.2 W past nac imgs kept gvn costs lst sets bst mlo mal mpr lak trc ntr) := ov_isV
  refine r_pop X dX8_readsHour_21 rfl ?_
  refine r_aload_n X 0 dX8_readsHour_22 rfl ?_
  refine r_iconst X (0 : Int32) dX8_readsHour_23 (by decide) ?_
  refine r_bipush X (60 : Int32) dX8_readsHour_24 (by decide) ?_
  refine cl_X8_134 X (by decide) dX8_readsHour_26 (Nat.le_of_ble_eq_true rfl) (hv_b 0 _ rfl) (c_Model_figure  (by first | assumption | omega) (by first | assumption | omega)) ?_
  obtain ⟨q2, eq2⟩ : ∃ q, q = f_Model_figure tape taped q1.2.1 q1.2.2.1 q1.2.2.2.1 q1.2.2.2.2.1 q1.2.2.2.2.2.1 q1.2.2.2.2.2.2 (0 : Int32) (60 : Int32) := ⟨_, rfl⟩
  rw [← eq2]
  rw [← eq2] at hf
  try dsimp only at hf
  have hma_q2 : q2.2.2.2.1 ≤ taped := by rw [eq2]; exact figure_post (by assumption) (by assumption)
  have hv_b : isV (ov h b (modL b lane many items spare stat tape taped q2.2.1 q2.2.2.1 q2.2.2.2.1 q2.2.2.2.2.1 q2.2.2.2.2.2.1 q2.2.2.2.2.2.2 W past nac imgs kept gvn costs lst sets bst mlo mal mpr lak trc ntr)) b (modL b lane many items spare stat tape taped q2.2.1 q2.2.2.1 q2.2.2.2.1 q2.2.2.2.2.1 q2.2.2.2.2.2.1 q2.2.2.2.2.2.2 W past nac imgs kept gvn costs lst sets bst mlo mal mpr lak trc ntr) := ov_isV
  refine r_istore_n [(0, .ref b), (1, .int q2.1)] X dX8_readsHour_29 rfl (by decide) rfl ?_
  refine r_aload_n X 0 dX8_readsHour_30 rfl ?_
  refine r_aload_n X 0 dX8_readsHour_31 rfl ?_
  refine gf_X8_114 X dX8_readsHour_32 (hv_b 0 _ rfl) rfl ?_
  refine r_iconst X (4 : Int32) dX8_readsHour_35 (by decide) ?_
  refine m_join (P := SW Z 44 [(0, .ref b), (1, .int q2.1)] [.int (if q2.2.2.2.2.2.1 = (4 : Int32) then (1 : Int32) else (0 : Int32)), .ref b] (ov h b (modL b lane many items spare stat tape taped q2.2.1 q2.2.2.1 q2.2.2.2.1 q2.2.2.2.2.1 q2.2.2.2.2.2.1 q2.2.2.2.2.2.2 W past nac imgs kept gvn costs lst sets bst mlo mal mpr lak trc ntr))) (fun K => ?_) ?_
  · refine r_icmp_ne X 43 dX8_readsHour_36 rfl (fun c2 => ?_) (fun c2 => ?_)
    · skip
      refine r_iconst X (0 : Int32) dX8_readsHour_43 (by decide) ?_
      try simp only [if_neg c2] at K ⊢
      exact K
    · skip
      refine r_iconst X (1 : Int32) dX8_readsHour_39 (by decide) ?_
      refine r_goto X 44 dX8_readsHour_40 rfl ?_
      try simp only [if_pos c2] at K ⊢
      exact K
  have hv_b : isV (ov h b (modL b lane many items spare stat tape taped q2.2.1 q2.2.2.1 q2.2.2.2.1 q2.2.2.2.2.1 q2.2.2.2.2.2.1 q2.2.2.2.2.2.2 W past nac imgs kept gvn costs lst sets bst mlo mal mpr lak trc ntr)) b (modL b lane many items spare stat tape taped q2.2.1 q2.2.2.1 q2.2.2.2.1 q2.2.2.2.2.1 q2.2.2.2.2.2.1 q2.2.2.2.2.2.2 W past nac imgs kept gvn costs lst sets bst mlo mal mpr lak trc ntr) := ov_isV
  refine r_iconst X (1 : Int32) dX8_readsHour_44 (by decide) ?_
  refine cl_X8_130 X (by decide) dX8_readsHour_45 (Nat.le_of_ble_eq_true rfl) (hv_b 0 _ rfl) (c_Model_takes  (by first | assumption | omega) (by first | assumption | omega)) ?_
  obtain ⟨q3, eq3⟩ : ∃ q, q = f_Model_takes tape taped q2.2.1 q2.2.2.1 q2.2.2.2.1 q2.2.2.2.2.1 q2.2.2.2.2.2.1 q2.2.2.2.2.2.2 (if q2.2.2.2.2.2.1 = (4 : Int32) then (1 : Int32) else (0 : Int32)) (1 : Int32) := ⟨_, rfl⟩
  rw [← eq3]
  rw [← eq3] at hf
  try dsimp only at hf
  have hma_q3 : q3.2.2.2.1 ≤ taped := by rw [eq3]; exact takes_post (by assumption) (by assumption)
  have hv_b : isV (ov h b (modL b lane many items spare stat tape taped q3.2.1 q3.2.2.1 q3.2.2.2.1 q3.2.2.2.2.1 q3.2.2.2.2.2.1 q3.2.2.2.2.2.2 W past nac imgs kept gvn costs lst sets bst mlo mal mpr lak trc ntr)) b (modL b lane many items spare stat tape taped q3.2.1 q3.2.2.1 q3.2.2.2.1 q3.2.2.2.2.1 q3.2.2.2.2.2.1 q3.2.2.2.2.2.2 W past nac imgs kept gvn costs lst sets bst mlo mal mpr lak trc ntr) := ov_isV
  refine r_pop X dX8_readsHour_48 rfl ?_
  refine r_aload_n X 0 dX8_readsHour_49 rfl ?_
  refine cl_X8_120 X (by decide) dX8_readsHour_50 (Nat.le_of_ble_eq_true rfl) (hv_b 0 _ rfl) (c_Model_isWell hv_b ) ?_
  refine r_if_eq X 80 dX8_readsHour_53 rfl (fun c3 => ?_) (fun c3 => ?_)
  · rw [if_pos c3] at hf
    try subst hf
    exact r_return X Y dX8_readsHour_80 rfl rfl
  · rw [if_neg c3] at hf
    refine r_aload_n X 0 dX8_readsHour_56 rfl ?_
    refine gf_X8_28 X dX8_readsHour_57 (hv_b 0 _ rfl) rfl ?_
    refine r_iconst X (3 : Int32) dX8_readsHour_60 (by decide) ?_
    refine r_aload_n X 0 dX8_readsHour_61 rfl ?_
    refine gf_X8_28 X dX8_readsHour_62 (hv_b 0 _ rfl) rfl ?_
    refine r_iconst X (1 : Int32) dX8_readsHour_65 (by decide) ?_
    refine r_ialdv X (v := nI Hd) (k0 := 1) dX8_readsHour_66 (hv_b (6 + 1) _ (modL_W (by omega))) (by omega) (by decide) hd1 ?_
    refine r_iaddn X (a := 3) (b := Hd) dX8_readsHour_67 ?_
    refine r_iload_n X 1 dX8_readsHour_68 rfl ?_
    refine r_iastn X (k0 := 3 + Hd) dX8_readsHour_69 (hv_b (6 + 1) _ (modL_W (by omega))) (by omega) (by first | decide | omega) ?_
    refine SW.heq (h2 := (ov h b (modL b lane many items spare stat tape taped q3.2.1 q3.2.2.1 q3.2.2.2.1 q3.2.2.2.2.1 q3.2.2.2.2.2.1 q3.2.2.2.2.2.2 (va_up W 1 (upd (W 1) (3 + Hd) q2.1)) past nac imgs kept gvn costs lst sets bst mlo mal mpr lak trc ntr))) (ov_up (6 + 1) (show _ < 19 by omega) (modL_Wset (by omega))) ?_
    have hv_b : isV (ov h b (modL b lane many items spare stat tape taped q3.2.1 q3.2.2.1 q3.2.2.2.1 q3.2.2.2.2.1 q3.2.2.2.2.2.1 q3.2.2.2.2.2.2 (va_up W 1 (upd (W 1) (3 + Hd) q2.1)) past nac imgs kept gvn costs lst sets bst mlo mal mpr lak trc ntr)) b (modL b lane many items spare stat tape taped q3.2.1 q3.2.2.1 q3.2.2.2.1 q3.2.2.2.2.1 q3.2.2.2.2.2.1 q3.2.2.2.2.2.2 (va_up W 1 (upd (W 1) (3 + Hd) q2.1)) past nac imgs kept gvn costs lst sets bst mlo mal mpr lak trc ntr) := ov_isV
    refine r_aload_n X 0 dX8_readsHour_70 rfl ?_
    refine gf_X8_28 X dX8_readsHour_71 (hv_b 0 _ rfl) rfl ?_
    refine r_iconst X (1 : Int32) dX8_readsHour_74 (by decide) ?_
    refine r_dup2 X dX8_readsHour_75 rfl rfl ?_
    refine r_ialdv X (v := nI Hd) (k0 := 1) dX8_readsHour_76 (hv_b (6 + 1) _ (modL_W (by omega))) (by omega) (by decide) (by show (if 1 = 3 + Hd then _ else (W 1) 1) = _; rw [if_neg (by omega)]; exact hd1) ?_
    refine r_iconst X (1 : Int32) dX8_readsHour_77 (by decide) ?_
    refine r_iaddn X (a := Hd) (b := 1) dX8_readsHour_78 ?_
    refine r_iastn X (k0 := 1) dX8_readsHour_79 (hv_b (6 + 1) _ (modL_W (by omega))) (by omega) (by first | decide | omega) ?_
    refine SW.heq (h2 := (ov h b (modL b lane many items spare stat tape taped q3.2.1 q3.2.2.1 q3.2.2.2.1 q3.2.2.2.2.1 q3.2.2.2.2.2.1 q3.2.2.2.2.2.2 (va_up (va_up W 1 (upd (W 1) (3 + Hd) q2.1)) 1 (upd ((va_up W 1 (upd (W 1) (3 + Hd) q2.1)) 1) 1 (nI (Hd + 1)))) past nac imgs kept gvn costs lst sets bst mlo mal mpr lak trc ntr))) (ov_up (6 + 1) (show _ < 19 by omega) (modL_Wset (by omega))) ?_
    have hv_b : isV (ov h b (modL b lane many items spare stat tape taped q3.2.1 q3.2.2.1 q3.2.2.2.1 q3.2.2.2.2.1 q3.2.2.2.2.2.1 q3.2.2.2.2.2.2 (va_up (va_up W 1 (upd (W 1) (3 + Hd) q2.1)) 1 (upd ((va_up W 1 (upd (W 1) (3 + Hd) q2.1)) 1) 1 (nI (Hd + 1)))) past nac imgs kept gvn costs lst sets bst mlo mal mpr lak trc ntr)) b (modL b lane many items spare stat tape taped q3.2.1 q3.2.2.1 q3.2.2.2.1 q3.2.2.2.2.1 q3.2.2.2.2.2.1 q3.2.2.2.2.2.2 (va_up (va_up W 1 (upd (W 1) (3 + Hd) q2.1)) 1 (upd ((va_up W 1 (upd (W 1) (3 + Hd) q2.1)) 1) 1 (nI (Hd + 1)))) past nac imgs kept gvn costs lst sets bst mlo mal mpr lak trc ntr) := ov_isV
    try subst hf
    exact r_return X Y dX8_readsHour_80 rfl rfl
