theorem in_nat {v : Int32} {N : Nat} (hN : N ≤ 2 ^ 30) (h : ¬ f_Model_in v 0 (nI N - 1) = 0) : ∃ k, k < N ∧ v = nI k := by
  unfold f_Model_in at h
  by_cases c1 : v < 0
  · rw [if_pos c1] at h; exact absurd rfl h
  · rw [if_neg c1] at h
    by_cases c2 : nI N - 1 < v
    · rw [if_pos c2] at h; exact absurd rfl h
    · obtain ⟨j, hj, rfl⟩ := nI_of c1
      refine ⟨j, ?_, rfl⟩
      rcases Nat.lt_or_ge j N with q | q
      · exact q
      · refine absurd ?_ c2
        rcases Nat.eq_zero_or_pos N with e | e
        · subst e
          rw [Int32.lt_iff_toInt_lt, nI_toInt hj]
          have : (nI 0 - 1).toInt = -1 := by decide
          omega
        · rw [show nI N - (1 : Int32) = nI (N - 1) from pk_sub (b := 1) (by omega)]
          exact nI_lt (by omega) hj
theorem inC_nat {v : Int32} {N : Nat} {c : Int32} (hc : c = nI N) (hN : N < 2 ^ 31) (h : ¬ f_Model_in v 0 c = 0) : ∃ k, k ≤ N ∧ v = nI k := by
  subst hc
  unfold f_Model_in at h
  by_cases c1 : v < 0
  · rw [if_pos c1] at h; exact absurd rfl h
  · rw [if_neg c1] at h
    by_cases c2 : nI N < v
    · rw [if_pos c2] at h; exact absurd rfl h
    · obtain ⟨j, hj, rfl⟩ := nI_of c1
      refine ⟨j, ?_, rfl⟩
      rcases Nat.lt_or_ge N j with q | q
      · exact absurd (nI_lt q hj) c2
      · exact q
theorem isRow_nat {v : Int32} (h : ¬ f_Model_isRow v = 0) : ∃ k, k < 8 ∧ v = nI k := by
  obtain ⟨k, hk, e⟩ := inC_nat (N := 7) (c := 7) rfl (by decide) h
  exact ⟨k, by omega, e⟩

theorem le_nat {v : Int32} {N : Nat} (h0 : ¬ v < 0) (h : ¬ nI N < v) : ∃ k, k ≤ N ∧ v = nI k := by
  obtain ⟨j, hj, rfl⟩ := nI_of h0
  refine ⟨j, ?_, rfl⟩
  rcases Nat.lt_or_ge N j with q | q
  · exact absurd (nI_lt q hj) h
  · exact q

def f_Model_row_L52s (n1 : Nat) (k52 : Nat) (items : Nat → Int32) : (Nat → Int32) := upd items ((40 * n1) + k52) (0 : Int32)
def f_Model_row_L52 (n1 : Nat) (items : Nat → Int32) : Nat → (Nat → Int32)
  | 0 => items
  | k52 + 1 => f_Model_row_L52s n1 k52 (f_Model_row_L52 n1 items k52)
def f_Model_row (lane : Nat → Int32) (many : Nat → Nat) (items : Nat → Int32) (stat : Int32) (row : Int32) (la : Int32) (n : Int32) : Int32 × (Nat → Int32) × (Nat → Nat) × (Nat → Int32) × Int32 := (if (f_Model_isRow row) = (0 : Int32) then ((-1000001 : Int32), lane, many, items, stat) else (if (f_Model_in la (0 : Int32) (2 : Int32)) = (0 : Int32) then ((-1000001 : Int32), lane, many, items, stat) else (if (40 : Int32) < n then ((-1000001 : Int32), lane, many, items, stat) else (if n < (0 : Int32) then ((fun q2 => (q2.1, lane, many, items, q2.2)) (f_Model_found (4 : Int32))) else ((fun q1 => (q1.1, upd lane (row.toNatClampNeg) la, va_up many (row.toNatClampNeg) (n.toNatClampNeg), (f_Model_row_L52 (row.toNatClampNeg) items 40), q1.2)) (f_Model_well (nI (n.toNatClampNeg))))))))
set_option maxRecDepth 20000 in
set_option maxHeartbeats 4000000 in
theorem c_Model_row {G : mG} {h : mHp} {b : Nat} {lane : Nat → Int32} {many : Nat → Nat} {items : Nat → Int32} {spare : Nat → Int32} {stat : Int32} {tape : Nat → Int32} {taped : Nat} {fk : Int32} {fp : Int32} {mat : Nat} {mst : Nat} {tok : Int32} {mval : Int32} {W : Nat → Nat → Int32} {past : Nat → Int32} {nac : Nat} {imgs : Nat → Int32} {kept : Nat → Int32} {gvn : Nat → Int32} {costs : Nat → Int32} {lst : Nat → Int32} {sets : Nat → Int32} {bst : Int32} {mlo : Int64} {mal : Int32} {mpr : Nat → Int64} {lak : Nat → Int64} {trc : Nat → Int32} {ntr : Nat} {row : Int32} {la : Int32} {n : Int32}   (hm : ∀ j, j < 8 → many j ≤ 40) : Ret G 2 mX8_row [.ref b, .int row, .int la, .int n] (ov h b (modL b lane many items spare stat tape taped fk fp mat mst tok mval W past nac imgs kept gvn costs lst sets bst mlo mal mpr lak trc ntr)) (some (.int (f_Model_row lane many items stat row la n).1)) (ov h b (modL b (f_Model_row lane many items stat row la n).2.1 (f_Model_row lane many items stat row la n).2.2.1 (f_Model_row lane many items stat row la n).2.2.2.1 spare (f_Model_row lane many items stat row la n).2.2.2.2 tape taped fk fp mat mst tok mval W past nac imgs kept gvn costs lst sets bst mlo mal mpr lak trc ntr)) := by
  generalize hf : f_Model_row lane many items stat row la n = R
  unfold f_Model_row at hf
  refine Ret.of [(0, .ref b), (1, .int row), (2, .int la), (3, .int n)] (by decide) (Nat.le_of_ble_eq_true rfl) rfl ?_
  rintro Z rfl X Y
  have hv_b : isV (ov h b (modL b lane many items spare stat tape taped fk fp mat mst tok mval W past nac imgs kept gvn costs lst sets bst mlo mal mpr lak trc ntr)) b (modL b lane many items spare stat tape taped fk fp mat mst tok mval W past nac imgs kept gvn costs lst sets bst mlo mal mpr lak trc ntr) := ov_isV
  refine r_iload_n X 1 dX8_row_0 rfl ?_
  refine cl_X8_76 X (by decide) dX8_row_1 (Nat.le_of_ble_eq_true rfl) (c_Model_isRow  ) ?_
  refine r_if_eq X 22 dX8_row_4 rfl (fun cr => ?_) (fun cr => ?_)
  · rw [if_pos cr] at hf
    refine r_ldc X dX8_row_22 kk_X8_80 ?_
    try subst hf
    exact r_ireturn X Y dX8_row_24 rfl rfl
  · rw [if_neg cr] at hf
    obtain ⟨r, hr, rfl⟩ := isRow_nat cr
    try simp only [nI_clamp (show r < 2 ^ 31 by omega)] at hf
    refine r_iload_n X 2 dX8_row_7 rfl ?_
    refine r_iconst X (0 : Int32) dX8_row_8 (by decide) ?_
    refine r_iconst X (2 : Int32) dX8_row_9 (by decide) ?_
    refine cl_X8_72 X (by decide) dX8_row_10 (Nat.le_of_ble_eq_true rfl) (c_Model_in  ) ?_
    refine r_if_eq X 22 dX8_row_13 rfl (fun c1 => ?_) (fun c1 => ?_)
    · rw [if_pos c1] at hf
      refine r_ldc X dX8_row_22 kk_X8_80 ?_
      try subst hf
      exact r_ireturn X Y dX8_row_24 rfl rfl
    · rw [if_neg c1] at hf
      refine r_iload_n X 3 dX8_row_16 rfl ?_
      refine r_bipush X (40 : Int32) dX8_row_17 (by decide) ?_
      refine r_icmp_le X 25 dX8_row_19 rfl (fun c40 => ?_) (fun c40 => ?_)
      · rw [if_neg c40] at hf
        refine r_iload_n X 3 dX8_row_25 rfl ?_
        refine r_if_ge X 35 dX8_row_26 rfl (fun c0 => ?_) (fun c0 => ?_)
        · rw [if_neg c0] at hf
          obtain ⟨m, hm, rfl⟩ := le_nat (N := 40) c0 c40
          try simp only [nI_clamp (show m < 2 ^ 31 by omega)] at hf
          refine r_aload_n X 0 dX8_row_35 rfl ?_
          refine gf_X8_7 X dX8_row_36 (hv_b 0 _ rfl) rfl ?_
          refine r_iload_n X 1 dX8_row_39 rfl ?_
          refine r_iload_n X 2 dX8_row_40 rfl ?_
          refine r_iastn X (k0 := r) dX8_row_41 (hv_b 1 _ rfl) (by omega) (by first | decide | omega) ?_
          refine SW.heq (h2 := (ov h b (modL b (upd lane r la) many items spare stat tape taped fk fp mat mst tok mval W past nac imgs kept gvn costs lst sets bst mlo mal mpr lak trc ntr))) (ov_up 1 (Nat.le_of_ble_eq_true rfl) rfl) ?_
          have hv_b : isV (ov h b (modL b (upd lane r la) many items spare stat tape taped fk fp mat mst tok mval W past nac imgs kept gvn costs lst sets bst mlo mal mpr lak trc ntr)) b (modL b (upd lane r la) many items spare stat tape taped fk fp mat mst tok mval W past nac imgs kept gvn costs lst sets bst mlo mal mpr lak trc ntr) := ov_isV
          refine r_aload_n X 0 dX8_row_42 rfl ?_
          refine gf_X8_13 X dX8_row_43 (hv_b 0 _ rfl) rfl ?_
          refine r_iload_n X 1 dX8_row_46 rfl ?_
          refine r_iload_n X 3 dX8_row_47 rfl ?_
          refine r_iastn X (k0 := r) dX8_row_48 (hv_b 2 _ rfl) (by omega) (by first | decide | omega) ?_
          refine SW.heq (h2 := (ov h b (modL b (upd lane r la) (va_up many r m) items spare stat tape taped fk fp mat mst tok mval W past nac imgs kept gvn costs lst sets bst mlo mal mpr lak trc ntr))) (by rw [show upd (fun j => nI (many j)) r (nI m) = _ from updN many r m]; exact ov_up 2 (Nat.le_of_ble_eq_true rfl) rfl) ?_
          have hv_b : isV (ov h b (modL b (upd lane r la) (va_up many r m) items spare stat tape taped fk fp mat mst tok mval W past nac imgs kept gvn costs lst sets bst mlo mal mpr lak trc ntr)) b (modL b (upd lane r la) (va_up many r m) items spare stat tape taped fk fp mat mst tok mval W past nac imgs kept gvn costs lst sets bst mlo mal mpr lak trc ntr) := ov_isV
          refine r_iconst X (0 : Int32) dX8_row_49 (by decide) ?_
          refine r_istore [(0, .ref b), (1, .int (nI r)), (2, .int la), (3, .int (nI m)), (4, .int (0 : Int32))] X dX8_row_50 (by decide) rfl ?_
          refine SW.pick [0, 1, 3, 4] [(0, .ref b), (1, .int (nI r)), (3, .int (nI m)), (4, .int (0 : Int32))] rfl ?_
          refine loop_up (P := fun k2 => SW Z 52 [(0, .ref b), (1, .int (nI r)), (3, .int (nI m)), (4, .int (nI k2))] [] (ov h b (modL b (upd lane r la) (va_up many r m) (f_Model_row_L52 r items k2) spare stat tape taped fk fp mat mst tok mval W past nac imgs kept gvn costs lst sets bst mlo mal mpr lak trc ntr))) 40 ?_ ?_ 0 (Nat.zero_le _)
          rotate_left
          · intro k2 hk2 ih
            have hv_b : isV (ov h b (modL b (upd lane r la) (va_up many r m) (f_Model_row_L52 r items k2) spare stat tape taped fk fp mat mst tok mval W past nac imgs kept gvn costs lst sets bst mlo mal mpr lak trc ntr)) b (modL b (upd lane r la) (va_up many r m) (f_Model_row_L52 r items k2) spare stat tape taped fk fp mat mst tok mval W past nac imgs kept gvn costs lst sets bst mlo mal mpr lak trc ntr) := ov_isV
            refine r_iload X 3 dX8_row_52 rfl ?_
            refine r_bipush X (40 : Int32) dX8_row_54 (by decide) ?_
            refine r_icmp_ge X 78 dX8_row_56 rfl (fun z => absurd (nI_lt (a := k2) (b := 40) (by omega) (by omega)) z) (fun _ => ?_)
            refine r_aload_n X 0 dX8_row_59 rfl ?_
            refine gf_X8_16 X dX8_row_60 (hv_b 0 _ rfl) rfl ?_
            refine r_bipush X (40 : Int32) dX8_row_63 (by decide) ?_
            refine r_iload_n X 1 dX8_row_65 rfl ?_
            refine r_imuln X (a := 40) (b := r) dX8_row_66 ?_
            refine r_iload X 3 dX8_row_67 rfl ?_
            refine r_iaddn X (a := 40 * r) (b := k2) dX8_row_69 ?_
            refine r_iconst X (0 : Int32) dX8_row_70 (by decide) ?_
            refine r_iastn X (k0 := (40 * r) + k2) dX8_row_71 (hv_b 3 _ rfl) (by omega) (by first | decide | omega) ?_
            refine SW.heq (h2 := (ov h b (modL b (upd lane r la) (va_up many r m) (upd (f_Model_row_L52 r items k2) ((40 * r) + k2) (0 : Int32)) spare stat tape taped fk fp mat mst tok mval W past nac imgs kept gvn costs lst sets bst mlo mal mpr lak trc ntr))) (ov_up 3 (Nat.le_of_ble_eq_true rfl) rfl) ?_
            have hv_b : isV (ov h b (modL b (upd lane r la) (va_up many r m) (upd (f_Model_row_L52 r items k2) ((40 * r) + k2) (0 : Int32)) spare stat tape taped fk fp mat mst tok mval W past nac imgs kept gvn costs lst sets bst mlo mal mpr lak trc ntr)) b (modL b (upd lane r la) (va_up many r m) (upd (f_Model_row_L52 r items k2) ((40 * r) + k2) (0 : Int32)) spare stat tape taped fk fp mat mst tok mval W past nac imgs kept gvn costs lst sets bst mlo mal mpr lak trc ntr) := ov_isV
            refine r_iinc [(0, .ref b), (1, .int (nI r)), (3, .int (nI m)), (4, .int (nI (k2 + 1)))] X (nI (k2 + 1)) 3 dX8_row_72 rfl (nI_succ _).symm (by decide) rfl ?_
            refine r_goto X 52 dX8_row_75 rfl ?_
            exact ih
          have hv_b : isV (ov h b (modL b (upd lane r la) (va_up many r m) (f_Model_row_L52 r items 40) spare stat tape taped fk fp mat mst tok mval W past nac imgs kept gvn costs lst sets bst mlo mal mpr lak trc ntr)) b (modL b (upd lane r la) (va_up many r m) (f_Model_row_L52 r items 40) spare stat tape taped fk fp mat mst tok mval W past nac imgs kept gvn costs lst sets bst mlo mal mpr lak trc ntr) := ov_isV
          refine r_iload X 3 dX8_row_52 rfl ?_
          refine r_bipush X (40 : Int32) dX8_row_54 (by decide) ?_
          refine r_icmp_ge X 78 dX8_row_56 rfl (fun _ => ?_) (fun z => absurd z (nI_nlt (a := 40) (b := 40) (by omega) (by omega)))
          refine r_aload_n X 0 dX8_row_78 rfl ?_
          refine r_iload_n X 2 dX8_row_79 rfl ?_
          refine cl_X8_85 X (by decide) dX8_row_80 (Nat.le_of_ble_eq_true rfl) (hv_b 0 _ rfl) (c_Model_well  ) ?_
          obtain ⟨q1, eq1⟩ : ∃ q, q = f_Model_well (nI m) := ⟨_, rfl⟩
          rw [← eq1]
          rw [← eq1] at hf
          try dsimp only at hf
          have hv_b : isV (ov h b (modL b (upd lane r la) (va_up many r m) (f_Model_row_L52 r items 40) spare q1.2 tape taped fk fp mat mst tok mval W past nac imgs kept gvn costs lst sets bst mlo mal mpr lak trc ntr)) b (modL b (upd lane r la) (va_up many r m) (f_Model_row_L52 r items 40) spare q1.2 tape taped fk fp mat mst tok mval W past nac imgs kept gvn costs lst sets bst mlo mal mpr lak trc ntr) := ov_isV
          try subst hf
          exact r_ireturn X Y dX8_row_83 rfl rfl
        · rw [if_pos c0] at hf
          refine r_aload_n X 0 dX8_row_29 rfl ?_
          refine r_iconst X (4 : Int32) dX8_row_30 (by decide) ?_
          refine cl_X8_81 X (by decide) dX8_row_31 (Nat.le_of_ble_eq_true rfl) (hv_b 0 _ rfl) (c_Model_found  ) ?_
          obtain ⟨q2, eq2⟩ : ∃ q, q = f_Model_found (4 : Int32) := ⟨_, rfl⟩
          rw [← eq2]
          rw [← eq2] at hf
          try dsimp only at hf
          have hv_b : isV (ov h b (modL b lane many items spare q2.2 tape taped fk fp mat mst tok mval W past nac imgs kept gvn costs lst sets bst mlo mal mpr lak trc ntr)) b (modL b lane many items spare q2.2 tape taped fk fp mat mst tok mval W past nac imgs kept gvn costs lst sets bst mlo mal mpr lak trc ntr) := ov_isV
          try subst hf
          exact r_ireturn X Y dX8_row_34 rfl rfl
      · rw [if_pos c40] at hf
        refine r_ldc X dX8_row_22 kk_X8_80 ?_
        try subst hf
        exact r_ireturn X Y dX8_row_24 rfl rfl

theorem isUnit_nat {u : Int32} {U : Nat} (hU : U ≤ 4) (h : ¬ f_Model_isUnit u U = 0) : ∃ k, k < U ∧ u = nI k := in_nat (by omega) h
theorem isHour_nat {u : Int32} {H : Nat} (hH : H ≤ 6) (h : ¬ f_Model_isHour u H = 0) : ∃ k, k < H ∧ u = nI k := in_nat (by omega) h
theorem many_nat {v : Int32} {N : Nat} (hN : N ≤ 40) (h : ¬ f_Model_in v 0 (nI N - 1) = 0) : ∃ k, k < N ∧ v = nI k := in_nat (by omega) h

def f_Model_set (lane : Nat → Int32) (many : Nat → Nat) (items : Nat → Int32) (stat : Int32) (row : Int32) (i : Int32) (v : Int32) : Int32 × (Nat → Int32) × Int32 := (if (f_Model_isRow row) = (0 : Int32) then ((-1000001 : Int32), items, stat) else (if (f_Model_isMissing lane (row.toNatClampNeg)) = (0 : Int32) then (if (f_Model_in i (0 : Int32) ((nI (many (row.toNatClampNeg))) - (1 : Int32))) = (0 : Int32) then ((fun q2 => (q2.1, items, q2.2)) (f_Model_found (2 : Int32))) else ((fun q1 => (q1.1, upd items ((40 * (row.toNatClampNeg)) + (i.toNatClampNeg)) (f_Model_lowest (lane (row.toNatClampNeg)) v), q1.2)) (f_Model_well ((upd items ((40 * (row.toNatClampNeg)) + (i.toNatClampNeg)) (f_Model_lowest (lane (row.toNatClampNeg)) v)) ((40 * (row.toNatClampNeg)) + (i.toNatClampNeg)))))) else ((fun q3 => (q3.1, items, q3.2)) (f_Model_found (1 : Int32)))))
set_option maxRecDepth 20000 in
set_option maxHeartbeats 4000000 in
theorem c_Model_set {G : mG} {h : mHp} {b : Nat} {lane : Nat → Int32} {many : Nat → Nat} {items : Nat → Int32} {spare : Nat → Int32} {stat : Int32} {tape : Nat → Int32} {taped : Nat} {fk : Int32} {fp : Int32} {mat : Nat} {mst : Nat} {tok : Int32} {mval : Int32} {W : Nat → Nat → Int32} {past : Nat → Int32} {nac : Nat} {imgs : Nat → Int32} {kept : Nat → Int32} {gvn : Nat → Int32} {costs : Nat → Int32} {lst : Nat → Int32} {sets : Nat → Int32} {bst : Int32} {mlo : Int64} {mal : Int32} {mpr : Nat → Int64} {lak : Nat → Int64} {trc : Nat → Int32} {ntr : Nat} {row : Int32} {i : Int32} {v : Int32}   (hm : ∀ j, j < 8 → many j ≤ 40) : Ret G 2 mX8_set [.ref b, .int row, .int i, .int v] (ov h b (modL b lane many items spare stat tape taped fk fp mat mst tok mval W past nac imgs kept gvn costs lst sets bst mlo mal mpr lak trc ntr)) (some (.int (f_Model_set lane many items stat row i v).1)) (ov h b (modL b lane many (f_Model_set lane many items stat row i v).2.1 spare (f_Model_set lane many items stat row i v).2.2 tape taped fk fp mat mst tok mval W past nac imgs kept gvn costs lst sets bst mlo mal mpr lak trc ntr)) := by
  generalize hf : f_Model_set lane many items stat row i v = R
  unfold f_Model_set at hf
  refine Ret.of [(0, .ref b), (1, .int row), (2, .int i), (3, .int v)] (by decide) (Nat.le_of_ble_eq_true rfl) rfl ?_
  rintro Z rfl X Y
  have hv_b : isV (ov h b (modL b lane many items spare stat tape taped fk fp mat mst tok mval W past nac imgs kept gvn costs lst sets bst mlo mal mpr lak trc ntr)) b (modL b lane many items spare stat tape taped fk fp mat mst tok mval W past nac imgs kept gvn costs lst sets bst mlo mal mpr lak trc ntr) := ov_isV
  refine r_iload_n X 1 dX8_set_0 rfl ?_
  refine cl_X8_76 X (by decide) dX8_set_1 (Nat.le_of_ble_eq_true rfl) (c_Model_isRow  ) ?_
  refine r_if_ne X 10 dX8_set_4 rfl (fun cr => ?_) (fun cr => ?_)
  · rw [if_neg cr] at hf
    obtain ⟨r, hr, rfl⟩ := isRow_nat cr
    try simp only [nI_clamp (show r < 2 ^ 31 by omega)] at hf
    refine r_aload_n X 0 dX8_set_10 rfl ?_
    refine r_iload_n X 1 dX8_set_11 rfl ?_
    refine cl_X8_88 X (by decide) dX8_set_12 (Nat.le_of_ble_eq_true rfl) (hv_b 0 _ rfl) (c_Model_isMissing hv_b (by first | assumption | omega)) ?_
    refine r_if_eq X 24 dX8_set_15 rfl (fun c1 => ?_) (fun c1 => ?_)
    · rw [if_pos c1] at hf
      refine r_iload_n X 2 dX8_set_24 rfl ?_
      refine r_iconst X (0 : Int32) dX8_set_25 (by decide) ?_
      refine r_aload_n X 0 dX8_set_26 rfl ?_
      refine gf_X8_13 X dX8_set_27 (hv_b 0 _ rfl) rfl ?_
      refine r_iload_n X 1 dX8_set_30 rfl ?_
      refine r_ialdn X (k0 := r) dX8_set_31 (hv_b 2 _ rfl) (by omega) (by decide) ?_
      refine r_iconst X (1 : Int32) dX8_set_32 (by decide) ?_
      refine r_isub X dX8_set_33 ?_
      refine cl_X8_72 X (by decide) dX8_set_34 (Nat.le_of_ble_eq_true rfl) (c_Model_in  ) ?_
      refine r_if_ne X 46 dX8_set_37 rfl (fun ci => ?_) (fun ci => ?_)
      · rw [if_neg ci] at hf
        obtain ⟨j, hj, rfl⟩ := many_nat (hm _ hr) ci
        have hmr := hm _ hr
        try simp only [nI_clamp (show j < 2 ^ 31 by omega)] at hf
        refine r_aload_n X 0 dX8_set_46 rfl ?_
        refine gf_X8_16 X dX8_set_47 (hv_b 0 _ rfl) rfl ?_
        refine r_bipush X (40 : Int32) dX8_set_50 (by decide) ?_
        refine r_iload_n X 1 dX8_set_52 rfl ?_
        refine r_imuln X (a := 40) (b := r) dX8_set_53 ?_
        refine r_iload_n X 2 dX8_set_54 rfl ?_
        refine r_iaddn X (a := 40 * r) (b := j) dX8_set_55 ?_
        refine r_aload_n X 0 dX8_set_56 rfl ?_
        refine gf_X8_7 X dX8_set_57 (hv_b 0 _ rfl) rfl ?_
        refine r_iload_n X 1 dX8_set_60 rfl ?_
        refine r_ialdn X (k0 := r) dX8_set_61 (hv_b 1 _ rfl) (by omega) (by decide) ?_
        refine r_iload_n X 3 dX8_set_62 rfl ?_
        refine cl_X8_91 X (by decide) dX8_set_63 (Nat.le_of_ble_eq_true rfl) (c_Model_lowest  ) ?_
        refine r_iastn X (k0 := (40 * r) + j) dX8_set_66 (hv_b 3 _ rfl) (by omega) (by first | decide | omega) ?_
        refine SW.heq (h2 := (ov h b (modL b lane many (upd items ((40 * r) + j) (f_Model_lowest (lane r) v)) spare stat tape taped fk fp mat mst tok mval W past nac imgs kept gvn costs lst sets bst mlo mal mpr lak trc ntr))) (ov_up 3 (Nat.le_of_ble_eq_true rfl) rfl) ?_
        have hv_b : isV (ov h b (modL b lane many (upd items ((40 * r) + j) (f_Model_lowest (lane r) v)) spare stat tape taped fk fp mat mst tok mval W past nac imgs kept gvn costs lst sets bst mlo mal mpr lak trc ntr)) b (modL b lane many (upd items ((40 * r) + j) (f_Model_lowest (lane r) v)) spare stat tape taped fk fp mat mst tok mval W past nac imgs kept gvn costs lst sets bst mlo mal mpr lak trc ntr) := ov_isV
        refine r_aload_n X 0 dX8_set_67 rfl ?_
        refine r_aload_n X 0 dX8_set_68 rfl ?_
        refine gf_X8_16 X dX8_set_69 (hv_b 0 _ rfl) rfl ?_
        refine r_bipush X (40 : Int32) dX8_set_72 (by decide) ?_
        refine r_iload_n X 1 dX8_set_74 rfl ?_
        refine r_imuln X (a := 40) (b := r) dX8_set_75 ?_
        refine r_iload_n X 2 dX8_set_76 rfl ?_
        refine r_iaddn X (a := 40 * r) (b := j) dX8_set_77 ?_
        refine r_ialdn X (k0 := (40 * r) + j) dX8_set_78 (hv_b 3 _ rfl) (by omega) (by decide) ?_
        refine cl_X8_85 X (by decide) dX8_set_79 (Nat.le_of_ble_eq_true rfl) (hv_b 0 _ rfl) (c_Model_well  ) ?_
        obtain ⟨q1, eq1⟩ : ∃ q, q = f_Model_well ((upd items ((40 * r) + j) (f_Model_lowest (lane r) v)) ((40 * r) + j)) := ⟨_, rfl⟩
        rw [← eq1]
        rw [← eq1] at hf
        try dsimp only at hf
        have hv_b : isV (ov h b (modL b lane many (upd items ((40 * r) + j) (f_Model_lowest (lane r) v)) spare q1.2 tape taped fk fp mat mst tok mval W past nac imgs kept gvn costs lst sets bst mlo mal mpr lak trc ntr)) b (modL b lane many (upd items ((40 * r) + j) (f_Model_lowest (lane r) v)) spare q1.2 tape taped fk fp mat mst tok mval W past nac imgs kept gvn costs lst sets bst mlo mal mpr lak trc ntr) := ov_isV
        try subst hf
        exact r_ireturn X Y dX8_set_82 rfl rfl
      · rw [if_pos ci] at hf
        refine r_aload_n X 0 dX8_set_40 rfl ?_
        refine r_iconst X (2 : Int32) dX8_set_41 (by decide) ?_
        refine cl_X8_81 X (by decide) dX8_set_42 (Nat.le_of_ble_eq_true rfl) (hv_b 0 _ rfl) (c_Model_found  ) ?_
        obtain ⟨q2, eq2⟩ : ∃ q, q = f_Model_found (2 : Int32) := ⟨_, rfl⟩
        rw [← eq2]
        rw [← eq2] at hf
        try dsimp only at hf
        have hv_b : isV (ov h b (modL b lane many items spare q2.2 tape taped fk fp mat mst tok mval W past nac imgs kept gvn costs lst sets bst mlo mal mpr lak trc ntr)) b (modL b lane many items spare q2.2 tape taped fk fp mat mst tok mval W past nac imgs kept gvn costs lst sets bst mlo mal mpr lak trc ntr) := ov_isV
        try subst hf
        exact r_ireturn X Y dX8_set_45 rfl rfl
    · rw [if_neg c1] at hf
      refine r_aload_n X 0 dX8_set_18 rfl ?_
      refine r_iconst X (1 : Int32) dX8_set_19 (by decide) ?_
      refine cl_X8_81 X (by decide) dX8_set_20 (Nat.le_of_ble_eq_true rfl) (hv_b 0 _ rfl) (c_Model_found  ) ?_
      obtain ⟨q3, eq3⟩ : ∃ q, q = f_Model_found (1 : Int32) := ⟨_, rfl⟩
      rw [← eq3]
      rw [← eq3] at hf
      try dsimp only at hf
      have hv_b : isV (ov h b (modL b lane many items spare q3.2 tape taped fk fp mat mst tok mval W past nac imgs kept gvn costs lst sets bst mlo mal mpr lak trc ntr)) b (modL b lane many items spare q3.2 tape taped fk fp mat mst tok mval W past nac imgs kept gvn costs lst sets bst mlo mal mpr lak trc ntr) := ov_isV
      try subst hf
      exact r_ireturn X Y dX8_set_23 rfl rfl
  · rw [if_pos cr] at hf
    refine r_ldc X dX8_set_7 kk_X8_80 ?_
    try subst hf
    exact r_ireturn X Y dX8_set_9 rfl rfl

def f_Model_drop (lane : Nat → Int32) (many : Nat → Nat) (stat : Int32) (row : Int32) : Int32 × (Nat → Int32) × Int32 := (if (f_Model_isRow row) = (0 : Int32) then ((-1000001 : Int32), lane, stat) else (if (f_Model_isMissing lane (row.toNatClampNeg)) = (0 : Int32) then ((fun q1 => (q1.1, upd lane (row.toNatClampNeg) (-1000000 : Int32), q1.2)) (f_Model_well (nI (many (row.toNatClampNeg))))) else ((fun q2 => (q2.1, lane, q2.2)) (f_Model_found (1 : Int32)))))
set_option maxRecDepth 20000 in
set_option maxHeartbeats 4000000 in
theorem c_Model_drop {G : mG} {h : mHp} {b : Nat} {lane : Nat → Int32} {many : Nat → Nat} {items : Nat → Int32} {spare : Nat → Int32} {stat : Int32} {tape : Nat → Int32} {taped : Nat} {fk : Int32} {fp : Int32} {mat : Nat} {mst : Nat} {tok : Int32} {mval : Int32} {W : Nat → Nat → Int32} {past : Nat → Int32} {nac : Nat} {imgs : Nat → Int32} {kept : Nat → Int32} {gvn : Nat → Int32} {costs : Nat → Int32} {lst : Nat → Int32} {sets : Nat → Int32} {bst : Int32} {mlo : Int64} {mal : Int32} {mpr : Nat → Int64} {lak : Nat → Int64} {trc : Nat → Int32} {ntr : Nat} {row : Int32}   (hm : ∀ j, j < 8 → many j ≤ 40) : Ret G 2 mX8_drop [.ref b, .int row] (ov h b (modL b lane many items spare stat tape taped fk fp mat mst tok mval W past nac imgs kept gvn costs lst sets bst mlo mal mpr lak trc ntr)) (some (.int (f_Model_drop lane many stat row).1)) (ov h b (modL b (f_Model_drop lane many stat row).2.1 many items spare (f_Model_drop lane many stat row).2.2 tape taped fk fp mat mst tok mval W past nac imgs kept gvn costs lst sets bst mlo mal mpr lak trc ntr)) := by
  generalize hf : f_Model_drop lane many stat row = R
  unfold f_Model_drop at hf
  refine Ret.of [(0, .ref b), (1, .int row)] (by decide) (Nat.le_of_ble_eq_true rfl) rfl ?_
  rintro Z rfl X Y
  have hv_b : isV (ov h b (modL b lane many items spare stat tape taped fk fp mat mst tok mval W past nac imgs kept gvn costs lst sets bst mlo mal mpr lak trc ntr)) b (modL b lane many items spare stat tape taped fk fp mat mst tok mval W past nac imgs kept gvn costs lst sets bst mlo mal mpr lak trc ntr) := ov_isV
  refine r_iload_n X 1 dX8_drop_0 rfl ?_
  refine cl_X8_76 X (by decide) dX8_drop_1 (Nat.le_of_ble_eq_true rfl) (c_Model_isRow  ) ?_
  refine r_if_ne X 10 dX8_drop_4 rfl (fun cr => ?_) (fun cr => ?_)
  · rw [if_neg cr] at hf
    obtain ⟨r, hr, rfl⟩ := isRow_nat cr
    try simp only [nI_clamp (show r < 2 ^ 31 by omega)] at hf
    refine r_aload_n X 0 dX8_drop_10 rfl ?_
    refine r_iload_n X 1 dX8_drop_11 rfl ?_
    refine cl_X8_88 X (by decide) dX8_drop_12 (Nat.le_of_ble_eq_true rfl) (hv_b 0 _ rfl) (c_Model_isMissing hv_b (by first | assumption | omega)) ?_
    refine r_if_eq X 24 dX8_drop_15 rfl (fun c1 => ?_) (fun c1 => ?_)
    · rw [if_pos c1] at hf
      refine r_aload_n X 0 dX8_drop_24 rfl ?_
      refine gf_X8_7 X dX8_drop_25 (hv_b 0 _ rfl) rfl ?_
      refine r_iload_n X 1 dX8_drop_28 rfl ?_
      refine r_ldc X dX8_drop_29 kk_X8_66 ?_
      refine r_iastn X (k0 := r) dX8_drop_31 (hv_b 1 _ rfl) (by omega) (by first | decide | omega) ?_
      refine SW.heq (h2 := (ov h b (modL b (upd lane r (-1000000 : Int32)) many items spare stat tape taped fk fp mat mst tok mval W past nac imgs kept gvn costs lst sets bst mlo mal mpr lak trc ntr))) (ov_up 1 (Nat.le_of_ble_eq_true rfl) rfl) ?_
      have hv_b : isV (ov h b (modL b (upd lane r (-1000000 : Int32)) many items spare stat tape taped fk fp mat mst tok mval W past nac imgs kept gvn costs lst sets bst mlo mal mpr lak trc ntr)) b (modL b (upd lane r (-1000000 : Int32)) many items spare stat tape taped fk fp mat mst tok mval W past nac imgs kept gvn costs lst sets bst mlo mal mpr lak trc ntr) := ov_isV
      refine r_aload_n X 0 dX8_drop_32 rfl ?_
      refine r_aload_n X 0 dX8_drop_33 rfl ?_
      refine gf_X8_13 X dX8_drop_34 (hv_b 0 _ rfl) rfl ?_
      refine r_iload_n X 1 dX8_drop_37 rfl ?_
      refine r_ialdn X (k0 := r) dX8_drop_38 (hv_b 2 _ rfl) (by omega) (by decide) ?_
      refine cl_X8_85 X (by decide) dX8_drop_39 (Nat.le_of_ble_eq_true rfl) (hv_b 0 _ rfl) (c_Model_well  ) ?_
      obtain ⟨q1, eq1⟩ : ∃ q, q = f_Model_well (nI (many r)) := ⟨_, rfl⟩
      rw [← eq1]
      rw [← eq1] at hf
      try dsimp only at hf
      have hv_b : isV (ov h b (modL b (upd lane r (-1000000 : Int32)) many items spare q1.2 tape taped fk fp mat mst tok mval W past nac imgs kept gvn costs lst sets bst mlo mal mpr lak trc ntr)) b (modL b (upd lane r (-1000000 : Int32)) many items spare q1.2 tape taped fk fp mat mst tok mval W past nac imgs kept gvn costs lst sets bst mlo mal mpr lak trc ntr) := ov_isV
      try subst hf
      exact r_ireturn X Y dX8_drop_42 rfl rfl
    · rw [if_neg c1] at hf
      refine r_aload_n X 0 dX8_drop_18 rfl ?_
      refine r_iconst X (1 : Int32) dX8_drop_19 (by decide) ?_
      refine cl_X8_81 X (by decide) dX8_drop_20 (Nat.le_of_ble_eq_true rfl) (hv_b 0 _ rfl) (c_Model_found  ) ?_
      obtain ⟨q2, eq2⟩ : ∃ q, q = f_Model_found (1 : Int32) := ⟨_, rfl⟩
      rw [← eq2]
      rw [← eq2] at hf
      try dsimp only at hf
      have hv_b : isV (ov h b (modL b lane many items spare q2.2 tape taped fk fp mat mst tok mval W past nac imgs kept gvn costs lst sets bst mlo mal mpr lak trc ntr)) b (modL b lane many items spare q2.2 tape taped fk fp mat mst tok mval W past nac imgs kept gvn costs lst sets bst mlo mal mpr lak trc ntr) := ov_isV
      try subst hf
      exact r_ireturn X Y dX8_drop_23 rfl rfl
  · rw [if_pos cr] at hf
    refine r_ldc X dX8_drop_7 kk_X8_80 ?_
    try subst hf
    exact r_ireturn X Y dX8_drop_9 rfl rfl

def f_Model_feed (tape : Nat → Int32) (taped : Nat) (le : Int32) : Int32 × (Nat → Int32) × Nat := (if (f_Model_in le (0 : Int32) (255 : Int32)) = (0 : Int32) then ((-1000001 : Int32), tape, taped) else (if (nI taped) = (120 : Int32) then ((-1000003 : Int32), tape, taped) else (nI (taped + 1), upd tape taped le, taped + 1)))
set_option maxRecDepth 20000 in
set_option maxHeartbeats 4000000 in
theorem c_Model_feed {G : mG} {h : mHp} {b : Nat} {lane : Nat → Int32} {many : Nat → Nat} {items : Nat → Int32} {spare : Nat → Int32} {stat : Int32} {tape : Nat → Int32} {taped : Nat} {fk : Int32} {fp : Int32} {mat : Nat} {mst : Nat} {tok : Int32} {mval : Int32} {W : Nat → Nat → Int32} {past : Nat → Int32} {nac : Nat} {imgs : Nat → Int32} {kept : Nat → Int32} {gvn : Nat → Int32} {costs : Nat → Int32} {lst : Nat → Int32} {sets : Nat → Int32} {bst : Int32} {mlo : Int64} {mal : Int32} {mpr : Nat → Int64} {lak : Nat → Int64} {trc : Nat → Int32} {ntr : Nat} {le : Int32}   (ht : taped ≤ 120) : Ret G 1 mX8_feed [.ref b, .int le] (ov h b (modL b lane many items spare stat tape taped fk fp mat mst tok mval W past nac imgs kept gvn costs lst sets bst mlo mal mpr lak trc ntr)) (some (.int (f_Model_feed tape taped le).1)) (ov h b (modL b lane many items spare stat (f_Model_feed tape taped le).2.1 (f_Model_feed tape taped le).2.2 fk fp mat mst tok mval W past nac imgs kept gvn costs lst sets bst mlo mal mpr lak trc ntr)) := by
  generalize hf : f_Model_feed tape taped le = R
  unfold f_Model_feed at hf
  refine Ret.of [(0, .ref b), (1, .int le)] (by decide) (Nat.le_of_ble_eq_true rfl) rfl ?_
  rintro Z rfl X Y
  have hv_b : isV (ov h b (modL b lane many items spare stat tape taped fk fp mat mst tok mval W past nac imgs kept gvn costs lst sets bst mlo mal mpr lak trc ntr)) b (modL b lane many items spare stat tape taped fk fp mat mst tok mval W past nac imgs kept gvn costs lst sets bst mlo mal mpr lak trc ntr) := ov_isV
  refine r_iload_n X 1 dX8_feed_0 rfl ?_
  refine r_iconst X (0 : Int32) dX8_feed_1 (by decide) ?_
  refine r_sipush X (255 : Int32) dX8_feed_2 (by decide) ?_
  refine cl_X8_72 X (by decide) dX8_feed_5 (Nat.le_of_ble_eq_true rfl) (c_Model_in  ) ?_
  refine r_if_ne X 14 dX8_feed_8 rfl (fun c1 => ?_) (fun c1 => ?_)
  · rw [if_neg c1] at hf
    refine r_aload_n X 0 dX8_feed_14 rfl ?_
    refine gf_X8_98 X dX8_feed_15 (hv_b 0 _ rfl) rfl ?_
    refine r_bipush X (120 : Int32) dX8_feed_18 (by decide) ?_
    refine r_icmp_ne X 26 dX8_feed_20 rfl (fun c0 => ?_) (fun c0 => ?_)
    · rw [if_neg c0] at hf
      have hx := nI_ne_lt (b := 120) ht c0
      refine r_aload_n X 0 dX8_feed_26 rfl ?_
      refine gf_X8_22 X dX8_feed_27 (hv_b 0 _ rfl) rfl ?_
      refine r_aload_n X 0 dX8_feed_30 rfl ?_
      refine gf_X8_98 X dX8_feed_31 (hv_b 0 _ rfl) rfl ?_
      refine r_iload_n X 1 dX8_feed_34 rfl ?_
      refine r_iastn X (k0 := taped) dX8_feed_35 (hv_b 5 _ rfl) (by omega) (by first | decide | omega) ?_
      refine SW.heq (h2 := (ov h b (modL b lane many items spare stat (upd tape taped le) taped fk fp mat mst tok mval W past nac imgs kept gvn costs lst sets bst mlo mal mpr lak trc ntr))) (ov_up 5 (Nat.le_of_ble_eq_true rfl) rfl) ?_
      have hv_b : isV (ov h b (modL b lane many items spare stat (upd tape taped le) taped fk fp mat mst tok mval W past nac imgs kept gvn costs lst sets bst mlo mal mpr lak trc ntr)) b (modL b lane many items spare stat (upd tape taped le) taped fk fp mat mst tok mval W past nac imgs kept gvn costs lst sets bst mlo mal mpr lak trc ntr) := ov_isV
      refine r_aload_n X 0 dX8_feed_36 rfl ?_
      refine r_dup X dX8_feed_37 rfl ?_
      refine gf_X8_98 X dX8_feed_38 (hv_b 0 _ rfl) rfl ?_
      refine r_iconst X (1 : Int32) dX8_feed_41 (by decide) ?_
      refine r_iaddn X (a := taped) (b := 1) dX8_feed_42 ?_
      refine pf_X8_98 X dX8_feed_43 (hv_b 0 _ rfl) (Nat.le_of_ble_eq_true rfl) ?_
      refine SW.heq (h2 := (ov h b (modL b lane many items spare stat (upd tape taped le) (taped + 1) fk fp mat mst tok mval W past nac imgs kept gvn costs lst sets bst mlo mal mpr lak trc ntr))) (ov_up 0 (Nat.le_of_ble_eq_true rfl) rfl) ?_
      have hv_b : isV (ov h b (modL b lane many items spare stat (upd tape taped le) (taped + 1) fk fp mat mst tok mval W past nac imgs kept gvn costs lst sets bst mlo mal mpr lak trc ntr)) b (modL b lane many items spare stat (upd tape taped le) (taped + 1) fk fp mat mst tok mval W past nac imgs kept gvn costs lst sets bst mlo mal mpr lak trc ntr) := ov_isV
      refine r_aload_n X 0 dX8_feed_46 rfl ?_
      refine gf_X8_98 X dX8_feed_47 (hv_b 0 _ rfl) rfl ?_
      try subst hf
      exact r_ireturn X Y dX8_feed_50 rfl rfl
    · rw [if_pos c0] at hf
      refine r_ldc X dX8_feed_23 kk_X8_101 ?_
      try subst hf
      exact r_ireturn X Y dX8_feed_25 rfl rfl
  · rw [if_pos c1] at hf
    refine r_ldc X dX8_feed_11 kk_X8_80 ?_
    try subst hf
    exact r_ireturn X Y dX8_feed_13 rfl rfl

def f_Model_fault (fk : Int32) : Int32 := fk
set_option maxRecDepth 20000 in
set_option maxHeartbeats 4000000 in
theorem c_Model_fault {G : mG} {h : mHp} {b : Nat} {lane : Nat → Int32} {many : Nat → Nat} {items : Nat → Int32} {spare : Nat → Int32} {stat : Int32} {tape : Nat → Int32} {taped : Nat} {fk : Int32} {fp : Int32} {mat : Nat} {mst : Nat} {tok : Int32} {mval : Int32} {W : Nat → Nat → Int32} {past : Nat → Int32} {nac : Nat} {imgs : Nat → Int32} {kept : Nat → Int32} {gvn : Nat → Int32} {costs : Nat → Int32} {lst : Nat → Int32} {sets : Nat → Int32} {bst : Int32} {mlo : Int64} {mal : Int32} {mpr : Nat → Int64} {lak : Nat → Int64} {trc : Nat → Int32} {ntr : Nat} (hv_b : isV h b (modL b lane many items spare stat tape taped fk fp mat mst tok mval W past nac imgs kept gvn costs lst sets bst mlo mal mpr lak trc ntr))   : Ret G 0 mX8_fault [.ref b] h (some (.int (f_Model_fault fk))) h := by
  generalize hf : f_Model_fault fk = R
  unfold f_Model_fault at hf
  refine Ret.of [(0, .ref b)] (by decide) (Nat.le_of_ble_eq_true rfl) rfl ?_
  rintro Z rfl X Y
  refine r_aload_n X 0 dX8_fault_0 rfl ?_
  refine gf_X8_124 X dX8_fault_1 (hv_b 0 _ rfl) rfl ?_
  try subst hf
  exact r_ireturn X Y dX8_fault_4 rfl rfl

def f_Model_status (stat : Int32) : Int32 := stat
set_option maxRecDepth 20000 in
set_option maxHeartbeats 4000000 in
theorem c_Model_status {G : mG} {h : mHp} {b : Nat} {lane : Nat → Int32} {many : Nat → Nat} {items : Nat → Int32} {spare : Nat → Int32} {stat : Int32} {tape : Nat → Int32} {taped : Nat} {fk : Int32} {fp : Int32} {mat : Nat} {mst : Nat} {tok : Int32} {mval : Int32} {W : Nat → Nat → Int32} {past : Nat → Int32} {nac : Nat} {imgs : Nat → Int32} {kept : Nat → Int32} {gvn : Nat → Int32} {costs : Nat → Int32} {lst : Nat → Int32} {sets : Nat → Int32} {bst : Int32} {mlo : Int64} {mal : Int32} {mpr : Nat → Int64} {lak : Nat → Int64} {trc : Nat → Int32} {ntr : Nat} (hv_b : isV h b (modL b lane many items spare stat tape taped fk fp mat mst tok mval W past nac imgs kept gvn costs lst sets bst mlo mal mpr lak trc ntr))   : Ret G 0 mX8_status [.ref b] h (some (.int (f_Model_status stat))) h := by
  generalize hf : f_Model_status stat = R
  unfold f_Model_status at hf
  refine Ret.of [(0, .ref b)] (by decide) (Nat.le_of_ble_eq_true rfl) rfl ?_
  rintro Z rfl X Y
  refine r_aload_n X 0 dX8_status_0 rfl ?_
  refine gf_X8_67 X dX8_status_1 (hv_b 0 _ rfl) rfl ?_
  try subst hf
  exact r_ireturn X Y dX8_status_4 rfl rfl

def f_Model_kind (W : Nat → Nat → Int32) (u : Int32) (U : Nat) : Int32 := (if (f_Model_isUnit u U) = (0 : Int32) then (-1000001 : Int32) else (f_Model_kindIn W (u.toNatClampNeg)))
set_option maxRecDepth 20000 in
set_option maxHeartbeats 4000000 in
theorem c_Model_kind {G : mG} {h : mHp} {b : Nat} {lane : Nat → Int32} {many : Nat → Nat} {items : Nat → Int32} {spare : Nat → Int32} {stat : Int32} {tape : Nat → Int32} {taped : Nat} {fk : Int32} {fp : Int32} {mat : Nat} {mst : Nat} {tok : Int32} {mval : Int32} {W : Nat → Nat → Int32} {past : Nat → Int32} {nac : Nat} {imgs : Nat → Int32} {kept : Nat → Int32} {gvn : Nat → Int32} {costs : Nat → Int32} {lst : Nat → Int32} {sets : Nat → Int32} {bst : Int32} {mlo : Int64} {mal : Int32} {mpr : Nat → Int64} {lak : Nat → Int64} {trc : Nat → Int32} {ntr : Nat} {u : Int32} {U : Nat} (hv_b : isV h b (modL b lane many items spare stat tape taped fk fp mat mst tok mval W past nac imgs kept gvn costs lst sets bst mlo mal mpr lak trc ntr))  (h0 : W 0 0 = nI U) (hU : U ≤ 4) : Ret G 2 mX8_kind [.ref b, .int u] h (some (.int (f_Model_kind W u U))) h := by
  generalize hf : f_Model_kind W u U = R
  unfold f_Model_kind at hf
  refine Ret.of [(0, .ref b), (1, .int u)] (by decide) (Nat.le_of_ble_eq_true rfl) rfl ?_
  rintro Z rfl X Y
  refine r_aload_n X 0 dX8_kind_0 rfl ?_
  refine r_iload_n X 1 dX8_kind_1 rfl ?_
  refine cl_X8_220 X (by decide) dX8_kind_2 (Nat.le_of_ble_eq_true rfl) (hv_b 0 _ rfl) (c_Model_isUnit hv_b (by first | assumption | omega) (by first | assumption | omega)) ?_
  refine r_if_eq X 16 dX8_kind_5 rfl (fun cu => ?_) (fun cu => ?_)
  · rw [if_pos cu] at hf
    refine r_ldc X dX8_kind_16 kk_X8_80 ?_
    try subst hf
    exact r_ireturn X Y dX8_kind_18 rfl rfl
  · rw [if_neg cu] at hf
    obtain ⟨k, hk, rfl⟩ := isUnit_nat hU cu
    try simp only [nI_clamp (show k < 2 ^ 31 by omega)] at hf
    refine r_aload_n X 0 dX8_kind_8 rfl ?_
    refine r_iload_n X 1 dX8_kind_9 rfl ?_
    refine cl_X8_295 X (by decide) dX8_kind_10 (Nat.le_of_ble_eq_true rfl) (hv_b 0 _ rfl) (c_Model_kindIn hv_b (by first | assumption | omega)) ?_
    refine r_goto X 18 dX8_kind_13 rfl ?_
    try subst hf
    exact r_ireturn X Y dX8_kind_18 rfl rfl

theorem notes_post {W : Nat → Nat → Int32} {past : Nat → Int32} {nac : Nat} (h : nac ≤ 16) : (f_Model_notes W past nac).2 ≤ 16 := by
  have := notes_le h
  show (if nI nac = (16 : Int32) then nac - 1 else nac) + 1 ≤ 16
  omega

def f_Model_becomes (W : Nat → Nat → Int32) (past : Nat → Int32) (nac : Nat) (p : Nat) (v : Int32) : Int32 × (Nat → Nat → Int32) × (Nat → Int32) × Nat := ((fun q1 => ((W 0) p, va_up W 0 (upd (W 0) p v), q1.1, q1.2)) (f_Model_notes W past nac))
set_option maxRecDepth 20000 in
set_option maxHeartbeats 4000000 in
theorem c_Model_becomes {G : mG} {h : mHp} {b : Nat} {lane : Nat → Int32} {many : Nat → Nat} {items : Nat → Int32} {spare : Nat → Int32} {stat : Int32} {tape : Nat → Int32} {taped : Nat} {fk : Int32} {fp : Int32} {mat : Nat} {mst : Nat} {tok : Int32} {mval : Int32} {W : Nat → Nat → Int32} {past : Nat → Int32} {nac : Nat} {imgs : Nat → Int32} {kept : Nat → Int32} {gvn : Nat → Int32} {costs : Nat → Int32} {lst : Nat → Int32} {sets : Nat → Int32} {bst : Int32} {mlo : Int64} {mal : Int32} {mpr : Nat → Int64} {lak : Nat → Int64} {trc : Nat → Int32} {ntr : Nat} {p : Nat} {v : Int32}   (hac : nac ≤ 16) (hp : p < 41) : Ret G 2 mX8_becomes [.ref b, .int (nI p), .int v] (ov h b (modL b lane many items spare stat tape taped fk fp mat mst tok mval W past nac imgs kept gvn costs lst sets bst mlo mal mpr lak trc ntr)) (some (.int (f_Model_becomes W past nac p v).1)) (ov h b (modL b lane many items spare stat tape taped fk fp mat mst tok mval (f_Model_becomes W past nac p v).2.1 (f_Model_becomes W past nac p v).2.2.1 (f_Model_becomes W past nac p v).2.2.2 imgs kept gvn costs lst sets bst mlo mal mpr lak trc ntr)) := by
  generalize hf : f_Model_becomes W past nac p v = R
  unfold f_Model_becomes at hf
  refine Ret.of [(0, .ref b), (1, .int (nI p)), (2, .int v)] (by decide) (Nat.le_of_ble_eq_true rfl) rfl ?_
  rintro Z rfl X Y
  have hv_b : isV (ov h b (modL b lane many items spare stat tape taped fk fp mat mst tok mval W past nac imgs kept gvn costs lst sets bst mlo mal mpr lak trc ntr)) b (modL b lane many items spare stat tape taped fk fp mat mst tok mval W past nac imgs kept gvn costs lst sets bst mlo mal mpr lak trc ntr) := ov_isV
  refine r_aload_n X 0 dX8_becomes_0 rfl ?_
  refine cl_X8_224 X (by decide) dX8_becomes_1 (Nat.le_of_ble_eq_true rfl) (hv_b 0 _ rfl) (c_Model_notes  (by first | assumption | omega)) ?_
  obtain ⟨q1, eq1⟩ : ∃ q, q = f_Model_notes W past nac := ⟨_, rfl⟩
  rw [← eq1]
  rw [← eq1] at hf
  try dsimp only at hf
  have hv_b : isV (ov h b (modL b lane many items spare stat tape taped fk fp mat mst tok mval W q1.1 q1.2 imgs kept gvn costs lst sets bst mlo mal mpr lak trc ntr)) b (modL b lane many items spare stat tape taped fk fp mat mst tok mval W q1.1 q1.2 imgs kept gvn costs lst sets bst mlo mal mpr lak trc ntr) := ov_isV
  refine r_aload_n X 0 dX8_becomes_4 rfl ?_
  refine gf_X8_25 X dX8_becomes_5 (hv_b 0 _ rfl) rfl ?_
  refine r_iload_n X 1 dX8_becomes_8 rfl ?_
  refine r_ialdn X (k0 := p) dX8_becomes_9 (hv_b (6 + 0) _ (modL_W (by omega))) (by omega) (by decide) ?_
  refine r_istore_n [(0, .ref b), (1, .int (nI p)), (2, .int v), (3, .int ((W 0) p))] X dX8_becomes_10 rfl (by decide) rfl ?_
  refine r_aload_n X 0 dX8_becomes_11 rfl ?_
  refine gf_X8_25 X dX8_becomes_12 (hv_b 0 _ rfl) rfl ?_
  refine r_iload_n X 1 dX8_becomes_15 rfl ?_
  refine r_iload_n X 2 dX8_becomes_16 rfl ?_
  refine r_iastn X (k0 := p) dX8_becomes_17 (hv_b (6 + 0) _ (modL_W (by omega))) (by omega) (by first | decide | omega) ?_
  refine SW.heq (h2 := (ov h b (modL b lane many items spare stat tape taped fk fp mat mst tok mval (va_up W 0 (upd (W 0) p v)) q1.1 q1.2 imgs kept gvn costs lst sets bst mlo mal mpr lak trc ntr))) (ov_up (6 + 0) (show _ < 19 by omega) (modL_Wset (by omega))) ?_
  have hv_b : isV (ov h b (modL b lane many items spare stat tape taped fk fp mat mst tok mval (va_up W 0 (upd (W 0) p v)) q1.1 q1.2 imgs kept gvn costs lst sets bst mlo mal mpr lak trc ntr)) b (modL b lane many items spare stat tape taped fk fp mat mst tok mval (va_up W 0 (upd (W 0) p v)) q1.1 q1.2 imgs kept gvn costs lst sets bst mlo mal mpr lak trc ntr) := ov_isV
  refine r_iload_n X 3 dX8_becomes_18 rfl ?_
  try subst hf
  exact r_ireturn X Y dX8_becomes_19 rfl rfl

def f_Model_demand (W : Nat → Nat → Int32) (past : Nat → Int32) (nac : Nat) (hr : Int32) (v : Int32) (Hh : Nat) : Int32 × (Nat → Nat → Int32) × (Nat → Int32) × Nat := (if (f_Model_isHour hr Hh) = (0 : Int32) then ((-1000001 : Int32), W, past, nac) else (if (f_Model_in v (0 : Int32) (60 : Int32)) = (0 : Int32) then ((-1000001 : Int32), W, past, nac) else ((fun q1 => (q1.1, q1.2.1, q1.2.2.1, q1.2.2.2)) (f_Model_becomes W past nac (3 + (hr.toNatClampNeg)) v))))
set_option maxRecDepth 20000 in
set_option maxHeartbeats 4000000 in
theorem c_Model_demand {G : mG} {h : mHp} {b : Nat} {lane : Nat → Int32} {many : Nat → Nat} {items : Nat → Int32} {spare : Nat → Int32} {stat : Int32} {tape : Nat → Int32} {taped : Nat} {fk : Int32} {fp : Int32} {mat : Nat} {mst : Nat} {tok : Int32} {mval : Int32} {W : Nat → Nat → Int32} {past : Nat → Int32} {nac : Nat} {imgs : Nat → Int32} {kept : Nat → Int32} {gvn : Nat → Int32} {costs : Nat → Int32} {lst : Nat → Int32} {sets : Nat → Int32} {bst : Int32} {mlo : Int64} {mal : Int32} {mpr : Nat → Int64} {lak : Nat → Int64} {trc : Nat → Int32} {ntr : Nat} {hr : Int32} {v : Int32} {Hh : Nat}   (h1 : W 0 1 = nI Hh) (hH : Hh ≤ 6) (hac : nac ≤ 16) : Ret G 3 mX8_demand [.ref b, .int hr, .int v] (ov h b (modL b lane many items spare stat tape taped fk fp mat mst tok mval W past nac imgs kept gvn costs lst sets bst mlo mal mpr lak trc ntr)) (some (.int (f_Model_demand W past nac hr v Hh).1)) (ov h b (modL b lane many items spare stat tape taped fk fp mat mst tok mval (f_Model_demand W past nac hr v Hh).2.1 (f_Model_demand W past nac hr v Hh).2.2.1 (f_Model_demand W past nac hr v Hh).2.2.2 imgs kept gvn costs lst sets bst mlo mal mpr lak trc ntr)) := by
  generalize hf : f_Model_demand W past nac hr v Hh = R
  unfold f_Model_demand at hf
  refine Ret.of [(0, .ref b), (1, .int hr), (2, .int v)] (by decide) (Nat.le_of_ble_eq_true rfl) rfl ?_
  rintro Z rfl X Y
  have hv_b : isV (ov h b (modL b lane many items spare stat tape taped fk fp mat mst tok mval W past nac imgs kept gvn costs lst sets bst mlo mal mpr lak trc ntr)) b (modL b lane many items spare stat tape taped fk fp mat mst tok mval W past nac imgs kept gvn costs lst sets bst mlo mal mpr lak trc ntr) := ov_isV
  refine r_aload_n X 0 dX8_demand_0 rfl ?_
  refine r_iload_n X 1 dX8_demand_1 rfl ?_
  refine cl_X8_233 X (by decide) dX8_demand_2 (Nat.le_of_ble_eq_true rfl) (hv_b 0 _ rfl) (c_Model_isHour hv_b (by first | assumption | omega) (by first | assumption | omega)) ?_
  refine r_if_eq X 29 dX8_demand_5 rfl (fun cu => ?_) (fun cu => ?_)
  · rw [if_pos cu] at hf
    refine r_ldc X dX8_demand_29 kk_X8_80 ?_
    try subst hf
    exact r_ireturn X Y dX8_demand_31 rfl rfl
  · rw [if_neg cu] at hf
    obtain ⟨k, hk, rfl⟩ := isHour_nat hH cu
    try simp only [nI_clamp (show k < 2 ^ 31 by omega)] at hf
    refine r_iload_n X 2 dX8_demand_8 rfl ?_
    refine r_iconst X (0 : Int32) dX8_demand_9 (by decide) ?_
    refine r_bipush X (60 : Int32) dX8_demand_10 (by decide) ?_
    refine cl_X8_72 X (by decide) dX8_demand_12 (Nat.le_of_ble_eq_true rfl) (c_Model_in  ) ?_
    refine r_if_eq X 29 dX8_demand_15 rfl (fun c1 => ?_) (fun c1 => ?_)
    · rw [if_pos c1] at hf
      refine r_ldc X dX8_demand_29 kk_X8_80 ?_
      try subst hf
      exact r_ireturn X Y dX8_demand_31 rfl rfl
    · rw [if_neg c1] at hf
      refine r_aload_n X 0 dX8_demand_18 rfl ?_
      refine r_iconst X (3 : Int32) dX8_demand_19 (by decide) ?_
      refine r_iload_n X 1 dX8_demand_20 rfl ?_
      refine r_iaddn X (a := 3) (b := k) dX8_demand_21 ?_
      refine r_iload_n X 2 dX8_demand_22 rfl ?_
      refine cl_X8_236 X (by decide) dX8_demand_23 (Nat.le_of_ble_eq_true rfl) (hv_b 0 _ rfl) (c_Model_becomes  (by first | assumption | omega) (by first | assumption | omega)) ?_
      obtain ⟨q1, eq1⟩ : ∃ q, q = f_Model_becomes W past nac (3 + k) v := ⟨_, rfl⟩
      rw [← eq1]
      rw [← eq1] at hf
      try dsimp only at hf
      have hv_b : isV (ov h b (modL b lane many items spare stat tape taped fk fp mat mst tok mval q1.2.1 q1.2.2.1 q1.2.2.2 imgs kept gvn costs lst sets bst mlo mal mpr lak trc ntr)) b (modL b lane many items spare stat tape taped fk fp mat mst tok mval q1.2.1 q1.2.2.1 q1.2.2.2 imgs kept gvn costs lst sets bst mlo mal mpr lak trc ntr) := ov_isV
      refine r_goto X 31 dX8_demand_26 rfl ?_
      try subst hf
      exact r_ireturn X Y dX8_demand_31 rfl rfl

def f_Model_reserve (W : Nat → Nat → Int32) (past : Nat → Int32) (nac : Nat) (v : Int32) : Int32 × (Nat → Nat → Int32) × (Nat → Int32) × Nat := (if (f_Model_isDay W) = (0 : Int32) then ((-1000002 : Int32), W, past, nac) else (if (f_Model_in v (0 : Int32) (20 : Int32)) = (0 : Int32) then ((-1000001 : Int32), W, past, nac) else ((fun q1 => (q1.1, q1.2.1, q1.2.2.1, q1.2.2.2)) (f_Model_becomes W past nac 2 v))))
set_option maxRecDepth 20000 in
set_option maxHeartbeats 4000000 in
theorem c_Model_reserve {G : mG} {h : mHp} {b : Nat} {lane : Nat → Int32} {many : Nat → Nat} {items : Nat → Int32} {spare : Nat → Int32} {stat : Int32} {tape : Nat → Int32} {taped : Nat} {fk : Int32} {fp : Int32} {mat : Nat} {mst : Nat} {tok : Int32} {mval : Int32} {W : Nat → Nat → Int32} {past : Nat → Int32} {nac : Nat} {imgs : Nat → Int32} {kept : Nat → Int32} {gvn : Nat → Int32} {costs : Nat → Int32} {lst : Nat → Int32} {sets : Nat → Int32} {bst : Int32} {mlo : Int64} {mal : Int32} {mpr : Nat → Int64} {lak : Nat → Int64} {trc : Nat → Int32} {ntr : Nat} {v : Int32}   (hac : nac ≤ 16) : Ret G 3 mX8_reserve [.ref b, .int v] (ov h b (modL b lane many items spare stat tape taped fk fp mat mst tok mval W past nac imgs kept gvn costs lst sets bst mlo mal mpr lak trc ntr)) (some (.int (f_Model_reserve W past nac v).1)) (ov h b (modL b lane many items spare stat tape taped fk fp mat mst tok mval (f_Model_reserve W past nac v).2.1 (f_Model_reserve W past nac v).2.2.1 (f_Model_reserve W past nac v).2.2.2 imgs kept gvn costs lst sets bst mlo mal mpr lak trc ntr)) := by
  generalize hf : f_Model_reserve W past nac v = R
  unfold f_Model_reserve at hf
  refine Ret.of [(0, .ref b), (1, .int v)] (by decide) (Nat.le_of_ble_eq_true rfl) rfl ?_
  rintro Z rfl X Y
  have hv_b : isV (ov h b (modL b lane many items spare stat tape taped fk fp mat mst tok mval W past nac imgs kept gvn costs lst sets bst mlo mal mpr lak trc ntr)) b (modL b lane many items spare stat tape taped fk fp mat mst tok mval W past nac imgs kept gvn costs lst sets bst mlo mal mpr lak trc ntr) := ov_isV
  refine r_aload_n X 0 dX8_reserve_0 rfl ?_
  refine cl_X8_227 X (by decide) dX8_reserve_1 (Nat.le_of_ble_eq_true rfl) (hv_b 0 _ rfl) (c_Model_isDay hv_b ) ?_
  refine r_if_ne X 12 dX8_reserve_4 rfl (fun c1 => ?_) (fun c1 => ?_)
  · rw [if_neg c1] at hf
    refine r_iload_n X 1 dX8_reserve_12 rfl ?_
    refine r_iconst X (0 : Int32) dX8_reserve_13 (by decide) ?_
    refine r_bipush X (20 : Int32) dX8_reserve_14 (by decide) ?_
    refine cl_X8_72 X (by decide) dX8_reserve_16 (Nat.le_of_ble_eq_true rfl) (c_Model_in  ) ?_
    refine r_if_eq X 31 dX8_reserve_19 rfl (fun c2 => ?_) (fun c2 => ?_)
    · rw [if_pos c2] at hf
      refine r_ldc X dX8_reserve_31 kk_X8_80 ?_
      try subst hf
      exact r_ireturn X Y dX8_reserve_33 rfl rfl
    · rw [if_neg c2] at hf
      refine r_aload_n X 0 dX8_reserve_22 rfl ?_
      refine r_iconst X (2 : Int32) dX8_reserve_23 (by decide) ?_
      refine r_iload_n X 1 dX8_reserve_24 rfl ?_
      refine cl_X8_236 X (by decide) dX8_reserve_25 (Nat.le_of_ble_eq_true rfl) (hv_b 0 _ rfl) (c_Model_becomes (p := 2)  (by first | assumption | omega) (by first | assumption | omega)) ?_
      obtain ⟨q1, eq1⟩ : ∃ q, q = f_Model_becomes W past nac 2 v := ⟨_, rfl⟩
      rw [← eq1]
      rw [← eq1] at hf
      try dsimp only at hf
      have hv_b : isV (ov h b (modL b lane many items spare stat tape taped fk fp mat mst tok mval q1.2.1 q1.2.2.1 q1.2.2.2 imgs kept gvn costs lst sets bst mlo mal mpr lak trc ntr)) b (modL b lane many items spare stat tape taped fk fp mat mst tok mval q1.2.1 q1.2.2.1 q1.2.2.2 imgs kept gvn costs lst sets bst mlo mal mpr lak trc ntr) := ov_isV
      refine r_goto X 33 dX8_reserve_28 rfl ?_
      try subst hf
      exact r_ireturn X Y dX8_reserve_33 rfl rfl
  · rw [if_pos c1] at hf
    refine r_ldc X dX8_reserve_7 kk_X8_223 ?_
    refine r_goto X 33 dX8_reserve_9 rfl ?_
    try subst hf
    exact r_ireturn X Y dX8_reserve_33 rfl rfl

def f_Model_price (W : Nat → Nat → Int32) (past : Nat → Int32) (nac : Nat) (u : Int32) (v : Int32) (U : Nat) : Int32 × (Nat → Nat → Int32) × (Nat → Int32) × Nat := (if (f_Model_isUnit u U) = (0 : Int32) then ((-1000001 : Int32), W, past, nac) else (if (f_Model_in v (1 : Int32) (9 : Int32)) = (0 : Int32) then ((-1000001 : Int32), W, past, nac) else ((fun q1 => (q1.1, q1.2.1, q1.2.2.1, q1.2.2.2)) (f_Model_becomes W past nac ((9 + (8 * (u.toNatClampNeg))) + 3) v))))
set_option maxRecDepth 20000 in
set_option maxHeartbeats 4000000 in
theorem c_Model_price {G : mG} {h : mHp} {b : Nat} {lane : Nat → Int32} {many : Nat → Nat} {items : Nat → Int32} {spare : Nat → Int32} {stat : Int32} {tape : Nat → Int32} {taped : Nat} {fk : Int32} {fp : Int32} {mat : Nat} {mst : Nat} {tok : Int32} {mval : Int32} {W : Nat → Nat → Int32} {past : Nat → Int32} {nac : Nat} {imgs : Nat → Int32} {kept : Nat → Int32} {gvn : Nat → Int32} {costs : Nat → Int32} {lst : Nat → Int32} {sets : Nat → Int32} {bst : Int32} {mlo : Int64} {mal : Int32} {mpr : Nat → Int64} {lak : Nat → Int64} {trc : Nat → Int32} {ntr : Nat} {u : Int32} {v : Int32} {U : Nat}   (h0 : W 0 0 = nI U) (hU : U ≤ 4) (hac : nac ≤ 16) : Ret G 3 mX8_price [.ref b, .int u, .int v] (ov h b (modL b lane many items spare stat tape taped fk fp mat mst tok mval W past nac imgs kept gvn costs lst sets bst mlo mal mpr lak trc ntr)) (some (.int (f_Model_price W past nac u v U).1)) (ov h b (modL b lane many items spare stat tape taped fk fp mat mst tok mval (f_Model_price W past nac u v U).2.1 (f_Model_price W past nac u v U).2.2.1 (f_Model_price W past nac u v U).2.2.2 imgs kept gvn costs lst sets bst mlo mal mpr lak trc ntr)) := by
  generalize hf : f_Model_price W past nac u v U = R
  unfold f_Model_price at hf
  refine Ret.of [(0, .ref b), (1, .int u), (2, .int v)] (by decide) (Nat.le_of_ble_eq_true rfl) rfl ?_
  rintro Z rfl X Y
  have hv_b : isV (ov h b (modL b lane many items spare stat tape taped fk fp mat mst tok mval W past nac imgs kept gvn costs lst sets bst mlo mal mpr lak trc ntr)) b (modL b lane many items spare stat tape taped fk fp mat mst tok mval W past nac imgs kept gvn costs lst sets bst mlo mal mpr lak trc ntr) := ov_isV
  refine r_aload_n X 0 dX8_price_0 rfl ?_
  refine r_iload_n X 1 dX8_price_1 rfl ?_
  refine cl_X8_220 X (by decide) dX8_price_2 (Nat.le_of_ble_eq_true rfl) (hv_b 0 _ rfl) (c_Model_isUnit hv_b (by first | assumption | omega) (by first | assumption | omega)) ?_
  refine r_if_eq X 35 dX8_price_5 rfl (fun cu => ?_) (fun cu => ?_)
  · rw [if_pos cu] at hf
    refine r_ldc X dX8_price_35 kk_X8_80 ?_
    try subst hf
    exact r_ireturn X Y dX8_price_37 rfl rfl
  · rw [if_neg cu] at hf
    obtain ⟨k, hk, rfl⟩ := isUnit_nat hU cu
    try simp only [nI_clamp (show k < 2 ^ 31 by omega)] at hf
    refine r_iload_n X 2 dX8_price_8 rfl ?_
    refine r_iconst X (1 : Int32) dX8_price_9 (by decide) ?_
    refine r_bipush X (9 : Int32) dX8_price_10 (by decide) ?_
    refine cl_X8_72 X (by decide) dX8_price_12 (Nat.le_of_ble_eq_true rfl) (c_Model_in  ) ?_
    refine r_if_eq X 35 dX8_price_15 rfl (fun c1 => ?_) (fun c1 => ?_)
    · rw [if_pos c1] at hf
      refine r_ldc X dX8_price_35 kk_X8_80 ?_
      try subst hf
      exact r_ireturn X Y dX8_price_37 rfl rfl
    · rw [if_neg c1] at hf
      refine r_aload_n X 0 dX8_price_18 rfl ?_
      refine r_bipush X (9 : Int32) dX8_price_19 (by decide) ?_
      refine r_bipush X (8 : Int32) dX8_price_21 (by decide) ?_
      refine r_iload_n X 1 dX8_price_23 rfl ?_
      refine r_imuln X (a := 8) (b := k) dX8_price_24 ?_
      refine r_iaddn X (a := 9) (b := 8 * k) dX8_price_25 ?_
      refine r_iconst X (3 : Int32) dX8_price_26 (by decide) ?_
      refine r_iaddn X (a := 9 + (8 * k)) (b := 3) dX8_price_27 ?_
      refine r_iload_n X 2 dX8_price_28 rfl ?_
      refine cl_X8_236 X (by decide) dX8_price_29 (Nat.le_of_ble_eq_true rfl) (hv_b 0 _ rfl) (c_Model_becomes  (by first | assumption | omega) (by first | assumption | omega)) ?_
      obtain ⟨q1, eq1⟩ : ∃ q, q = f_Model_becomes W past nac ((9 + (8 * k)) + 3) v := ⟨_, rfl⟩
      rw [← eq1]
      rw [← eq1] at hf
      try dsimp only at hf
      have hv_b : isV (ov h b (modL b lane many items spare stat tape taped fk fp mat mst tok mval q1.2.1 q1.2.2.1 q1.2.2.2 imgs kept gvn costs lst sets bst mlo mal mpr lak trc ntr)) b (modL b lane many items spare stat tape taped fk fp mat mst tok mval q1.2.1 q1.2.2.1 q1.2.2.2 imgs kept gvn costs lst sets bst mlo mal mpr lak trc ntr) := ov_isV
      refine r_goto X 37 dX8_price_32 rfl ?_
      try subst hf
      exact r_ireturn X Y dX8_price_37 rfl rfl

def f_Model_become (W : Nat → Nat → Int32) (past : Nat → Int32) (nac : Nat) (u : Int32) (v : Int32) (U : Nat) : Int32 × (Nat → Nat → Int32) × (Nat → Int32) × Nat := (if (f_Model_isUnit u U) = (0 : Int32) then ((-1000001 : Int32), W, past, nac) else (if (f_Model_in v (1 : Int32) (5 : Int32)) = (0 : Int32) then ((-1000001 : Int32), W, past, nac) else (if ((W 0) (9 + (8 * (u.toNatClampNeg)))) = v then ((-1000002 : Int32), W, past, nac) else ((fun q1 => (q1.1, q1.2.1, q1.2.2.1, q1.2.2.2)) (f_Model_becomes W past nac (9 + (8 * (u.toNatClampNeg))) v)))))
set_option maxRecDepth 20000 in
set_option maxHeartbeats 4000000 in
theorem c_Model_become {G : mG} {h : mHp} {b : Nat} {lane : Nat → Int32} {many : Nat → Nat} {items : Nat → Int32} {spare : Nat → Int32} {stat : Int32} {tape : Nat → Int32} {taped : Nat} {fk : Int32} {fp : Int32} {mat : Nat} {mst : Nat} {tok : Int32} {mval : Int32} {W : Nat → Nat → Int32} {past : Nat → Int32} {nac : Nat} {imgs : Nat → Int32} {kept : Nat → Int32} {gvn : Nat → Int32} {costs : Nat → Int32} {lst : Nat → Int32} {sets : Nat → Int32} {bst : Int32} {mlo : Int64} {mal : Int32} {mpr : Nat → Int64} {lak : Nat → Int64} {trc : Nat → Int32} {ntr : Nat} {u : Int32} {v : Int32} {U : Nat}   (h0 : W 0 0 = nI U) (hU : U ≤ 4) (hac : nac ≤ 16) : Ret G 3 mX8_become [.ref b, .int u, .int v] (ov h b (modL b lane many items spare stat tape taped fk fp mat mst tok mval W past nac imgs kept gvn costs lst sets bst mlo mal mpr lak trc ntr)) (some (.int (f_Model_become W past nac u v U).1)) (ov h b (modL b lane many items spare stat tape taped fk fp mat mst tok mval (f_Model_become W past nac u v U).2.1 (f_Model_become W past nac u v U).2.2.1 (f_Model_become W past nac u v U).2.2.2 imgs kept gvn costs lst sets bst mlo mal mpr lak trc ntr)) := by
  generalize hf : f_Model_become W past nac u v U = R
  unfold f_Model_become at hf
  refine Ret.of [(0, .ref b), (1, .int u), (2, .int v)] (by decide) (Nat.le_of_ble_eq_true rfl) rfl ?_
  rintro Z rfl X Y
  have hv_b : isV (ov h b (modL b lane many items spare stat tape taped fk fp mat mst tok mval W past nac imgs kept gvn costs lst sets bst mlo mal mpr lak trc ntr)) b (modL b lane many items spare stat tape taped fk fp mat mst tok mval W past nac imgs kept gvn costs lst sets bst mlo mal mpr lak trc ntr) := ov_isV
  refine r_aload_n X 0 dX8_become_0 rfl ?_
  refine r_iload_n X 1 dX8_become_1 rfl ?_
  refine cl_X8_220 X (by decide) dX8_become_2 (Nat.le_of_ble_eq_true rfl) (hv_b 0 _ rfl) (c_Model_isUnit hv_b (by first | assumption | omega) (by first | assumption | omega)) ?_
  refine r_if_eq X 17 dX8_become_5 rfl (fun cu => ?_) (fun cu => ?_)
  · rw [if_pos cu] at hf
    refine r_ldc X dX8_become_17 kk_X8_80 ?_
    try subst hf
    exact r_ireturn X Y dX8_become_19 rfl rfl
  · rw [if_neg cu] at hf
    obtain ⟨k, hk, rfl⟩ := isUnit_nat hU cu
    try simp only [nI_clamp (show k < 2 ^ 31 by omega)] at hf
    refine r_iload_n X 2 dX8_become_8 rfl ?_
    refine r_iconst X (1 : Int32) dX8_become_9 (by decide) ?_
    refine r_iconst X (5 : Int32) dX8_become_10 (by decide) ?_
    refine cl_X8_72 X (by decide) dX8_become_11 (Nat.le_of_ble_eq_true rfl) (c_Model_in  ) ?_
    refine r_if_ne X 20 dX8_become_14 rfl (fun c1 => ?_) (fun c1 => ?_)
    · rw [if_neg c1] at hf
      refine r_aload_n X 0 dX8_become_20 rfl ?_
      refine gf_X8_25 X dX8_become_21 (hv_b 0 _ rfl) rfl ?_
      refine r_bipush X (9 : Int32) dX8_become_24 (by decide) ?_
      refine r_bipush X (8 : Int32) dX8_become_26 (by decide) ?_
      refine r_iload_n X 1 dX8_become_28 rfl ?_
      refine r_imuln X (a := 8) (b := k) dX8_become_29 ?_
      refine r_iaddn X (a := 9) (b := 8 * k) dX8_become_30 ?_
      refine r_ialdn X (k0 := 9 + (8 * k)) dX8_become_31 (hv_b (6 + 0) _ (modL_W (by omega))) (by omega) (by decide) ?_
      refine r_iload_n X 2 dX8_become_32 rfl ?_
      refine r_icmp_ne X 41 dX8_become_33 rfl (fun c2 => ?_) (fun c2 => ?_)
      · rw [if_neg c2] at hf
        refine r_aload_n X 0 dX8_become_41 rfl ?_
        refine r_bipush X (9 : Int32) dX8_become_42 (by decide) ?_
        refine r_bipush X (8 : Int32) dX8_become_44 (by decide) ?_
        refine r_iload_n X 1 dX8_become_46 rfl ?_
        refine r_imuln X (a := 8) (b := k) dX8_become_47 ?_
        refine r_iaddn X (a := 9) (b := 8 * k) dX8_become_48 ?_
        refine r_iload_n X 2 dX8_become_49 rfl ?_
        refine cl_X8_236 X (by decide) dX8_become_50 (Nat.le_of_ble_eq_true rfl) (hv_b 0 _ rfl) (c_Model_becomes  (by first | assumption | omega) (by first | assumption | omega)) ?_
        obtain ⟨q1, eq1⟩ : ∃ q, q = f_Model_becomes W past nac (9 + (8 * k)) v := ⟨_, rfl⟩
        rw [← eq1]
        rw [← eq1] at hf
        try dsimp only at hf
        have hv_b : isV (ov h b (modL b lane many items spare stat tape taped fk fp mat mst tok mval q1.2.1 q1.2.2.1 q1.2.2.2 imgs kept gvn costs lst sets bst mlo mal mpr lak trc ntr)) b (modL b lane many items spare stat tape taped fk fp mat mst tok mval q1.2.1 q1.2.2.1 q1.2.2.2 imgs kept gvn costs lst sets bst mlo mal mpr lak trc ntr) := ov_isV
        try subst hf
        exact r_ireturn X Y dX8_become_53 rfl rfl
      · rw [if_pos c2] at hf
        refine r_ldc X dX8_become_36 kk_X8_223 ?_
        refine r_goto X 53 dX8_become_38 rfl ?_
        try subst hf
        exact r_ireturn X Y dX8_become_53 rfl rfl
    · rw [if_pos c1] at hf
      refine r_ldc X dX8_become_17 kk_X8_80 ?_
      try subst hf
      exact r_ireturn X Y dX8_become_19 rfl rfl

def f_Model_run (W : Nat → Nat → Int32) (past : Nat → Int32) (nac : Nat) (u : Int32) (v : Int32) (U : Nat) (Hh : Nat) : Int32 × (Nat → Nat → Int32) × (Nat → Int32) × Nat := (if (f_Model_isUnit u U) = (0 : Int32) then ((-1000001 : Int32), W, past, nac) else (if (f_Model_in v (0 : Int32) (((1 : Int32) <<< ((nI Hh) &&& 31)) - (1 : Int32))) = (0 : Int32) then ((-1000001 : Int32), W, past, nac) else (if ((W 0) ((9 + (8 * (u.toNatClampNeg))) + 7)) = v then ((-1000002 : Int32), W, past, nac) else ((fun q1 => ((W 0) ((9 + (8 * (u.toNatClampNeg))) + 7), va_up W 0 (upd (W 0) ((9 + (8 * (u.toNatClampNeg))) + 7) v), q1.1, q1.2)) (f_Model_notes W past nac)))))
set_option maxRecDepth 20000 in
set_option maxHeartbeats 4000000 in
theorem c_Model_run {G : mG} {h : mHp} {b : Nat} {lane : Nat → Int32} {many : Nat → Nat} {items : Nat → Int32} {spare : Nat → Int32} {stat : Int32} {tape : Nat → Int32} {taped : Nat} {fk : Int32} {fp : Int32} {mat : Nat} {mst : Nat} {tok : Int32} {mval : Int32} {W : Nat → Nat → Int32} {past : Nat → Int32} {nac : Nat} {imgs : Nat → Int32} {kept : Nat → Int32} {gvn : Nat → Int32} {costs : Nat → Int32} {lst : Nat → Int32} {sets : Nat → Int32} {bst : Int32} {mlo : Int64} {mal : Int32} {mpr : Nat → Int64} {lak : Nat → Int64} {trc : Nat → Int32} {ntr : Nat} {u : Int32} {v : Int32} {U : Nat} {Hh : Nat}   (h0 : W 0 0 = nI U) (hU : U ≤ 4) (h1 : W 0 1 = nI Hh) (hH : Hh ≤ 6) (hac : nac ≤ 16) : Ret G 2 mX8_run [.ref b, .int u, .int v] (ov h b (modL b lane many items spare stat tape taped fk fp mat mst tok mval W past nac imgs kept gvn costs lst sets bst mlo mal mpr lak trc ntr)) (some (.int (f_Model_run W past nac u v U Hh).1)) (ov h b (modL b lane many items spare stat tape taped fk fp mat mst tok mval (f_Model_run W past nac u v U Hh).2.1 (f_Model_run W past nac u v U Hh).2.2.1 (f_Model_run W past nac u v U Hh).2.2.2 imgs kept gvn costs lst sets bst mlo mal mpr lak trc ntr)) := by
  generalize hf : f_Model_run W past nac u v U Hh = R
  unfold f_Model_run at hf
  refine Ret.of [(0, .ref b), (1, .int u), (2, .int v)] (by decide) (Nat.le_of_ble_eq_true rfl) rfl ?_
  rintro Z rfl X Y
  have hv_b : isV (ov h b (modL b lane many items spare stat tape taped fk fp mat mst tok mval W past nac imgs kept gvn costs lst sets bst mlo mal mpr lak trc ntr)) b (modL b lane many items spare stat tape taped fk fp mat mst tok mval W past nac imgs kept gvn costs lst sets bst mlo mal mpr lak trc ntr) := ov_isV
  refine r_aload_n X 0 dX8_run_0 rfl ?_
  refine r_iload_n X 1 dX8_run_1 rfl ?_
  refine cl_X8_220 X (by decide) dX8_run_2 (Nat.le_of_ble_eq_true rfl) (hv_b 0 _ rfl) (c_Model_isUnit hv_b (by first | assumption | omega) (by first | assumption | omega)) ?_
  refine r_if_eq X 26 dX8_run_5 rfl (fun cu => ?_) (fun cu => ?_)
  · rw [if_pos cu] at hf
    refine r_ldc X dX8_run_26 kk_X8_80 ?_
    try subst hf
    exact r_ireturn X Y dX8_run_28 rfl rfl
  · rw [if_neg cu] at hf
    obtain ⟨k, hk, rfl⟩ := isUnit_nat hU cu
    try simp only [nI_clamp (show k < 2 ^ 31 by omega)] at hf
    refine r_iload_n X 2 dX8_run_8 rfl ?_
    refine r_iconst X (0 : Int32) dX8_run_9 (by decide) ?_
    refine r_iconst X (1 : Int32) dX8_run_10 (by decide) ?_
    refine r_aload_n X 0 dX8_run_11 rfl ?_
    refine gf_X8_25 X dX8_run_12 (hv_b 0 _ rfl) rfl ?_
    refine r_iconst X (1 : Int32) dX8_run_15 (by decide) ?_
    refine r_ialdv X (v := nI Hh) (k0 := 1) dX8_run_16 (hv_b (6 + 0) _ (modL_W (by omega))) (by omega) (by decide) h1 ?_
    refine r_ishl X dX8_run_17 ?_
    refine r_iconst X (1 : Int32) dX8_run_18 (by decide) ?_
    refine r_isub X dX8_run_19 ?_
    refine cl_X8_72 X (by decide) dX8_run_20 (Nat.le_of_ble_eq_true rfl) (c_Model_in  ) ?_
    refine r_if_ne X 29 dX8_run_23 rfl (fun c1 => ?_) (fun c1 => ?_)
    · rw [if_neg c1] at hf
      refine r_aload_n X 0 dX8_run_29 rfl ?_
      refine gf_X8_25 X dX8_run_30 (hv_b 0 _ rfl) rfl ?_
      refine r_bipush X (9 : Int32) dX8_run_33 (by decide) ?_
      refine r_bipush X (8 : Int32) dX8_run_35 (by decide) ?_
      refine r_iload_n X 1 dX8_run_37 rfl ?_
      refine r_imuln X (a := 8) (b := k) dX8_run_38 ?_
      refine r_iaddn X (a := 9) (b := 8 * k) dX8_run_39 ?_
      refine r_bipush X (7 : Int32) dX8_run_40 (by decide) ?_
      refine r_iaddn X (a := 9 + (8 * k)) (b := 7) dX8_run_42 ?_
      refine r_ialdn X (k0 := (9 + (8 * k)) + 7) dX8_run_43 (hv_b (6 + 0) _ (modL_W (by omega))) (by omega) (by decide) ?_
      refine r_istore_n [(0, .ref b), (1, .int (nI k)), (2, .int v), (3, .int ((W 0) ((9 + (8 * k)) + 7)))] X dX8_run_44 rfl (by decide) rfl ?_
      refine r_iload_n X 3 dX8_run_45 rfl ?_
      refine r_iload_n X 2 dX8_run_46 rfl ?_
      refine r_icmp_ne X 53 dX8_run_47 rfl (fun c2 => ?_) (fun c2 => ?_)
      · rw [if_neg c2] at hf
        refine r_aload_n X 0 dX8_run_53 rfl ?_
        refine cl_X8_224 X (by decide) dX8_run_54 (Nat.le_of_ble_eq_true rfl) (hv_b 0 _ rfl) (c_Model_notes  (by first | assumption | omega)) ?_
        obtain ⟨q1, eq1⟩ : ∃ q, q = f_Model_notes W past nac := ⟨_, rfl⟩
        rw [← eq1]
        rw [← eq1] at hf
        try dsimp only at hf
        have hv_b : isV (ov h b (modL b lane many items spare stat tape taped fk fp mat mst tok mval W q1.1 q1.2 imgs kept gvn costs lst sets bst mlo mal mpr lak trc ntr)) b (modL b lane many items spare stat tape taped fk fp mat mst tok mval W q1.1 q1.2 imgs kept gvn costs lst sets bst mlo mal mpr lak trc ntr) := ov_isV
        refine r_aload_n X 0 dX8_run_57 rfl ?_
        refine gf_X8_25 X dX8_run_58 (hv_b 0 _ rfl) rfl ?_
        refine r_bipush X (9 : Int32) dX8_run_61 (by decide) ?_
        refine r_bipush X (8 : Int32) dX8_run_63 (by decide) ?_
        refine r_iload_n X 1 dX8_run_65 rfl ?_
        refine r_imuln X (a := 8) (b := k) dX8_run_66 ?_
        refine r_iaddn X (a := 9) (b := 8 * k) dX8_run_67 ?_
        refine r_bipush X (7 : Int32) dX8_run_68 (by decide) ?_
        refine r_iaddn X (a := 9 + (8 * k)) (b := 7) dX8_run_70 ?_
        refine r_iload_n X 2 dX8_run_71 rfl ?_
        refine r_iastn X (k0 := (9 + (8 * k)) + 7) dX8_run_72 (hv_b (6 + 0) _ (modL_W (by omega))) (by omega) (by first | decide | omega) ?_
        refine SW.heq (h2 := (ov h b (modL b lane many items spare stat tape taped fk fp mat mst tok mval (va_up W 0 (upd (W 0) ((9 + (8 * k)) + 7) v)) q1.1 q1.2 imgs kept gvn costs lst sets bst mlo mal mpr lak trc ntr))) (ov_up (6 + 0) (show _ < 19 by omega) (modL_Wset (by omega))) ?_
        have hv_b : isV (ov h b (modL b lane many items spare stat tape taped fk fp mat mst tok mval (va_up W 0 (upd (W 0) ((9 + (8 * k)) + 7) v)) q1.1 q1.2 imgs kept gvn costs lst sets bst mlo mal mpr lak trc ntr)) b (modL b lane many items spare stat tape taped fk fp mat mst tok mval (va_up W 0 (upd (W 0) ((9 + (8 * k)) + 7) v)) q1.1 q1.2 imgs kept gvn costs lst sets bst mlo mal mpr lak trc ntr) := ov_isV
        refine r_iload_n X 3 dX8_run_73 rfl ?_
        try subst hf
        exact r_ireturn X Y dX8_run_74 rfl rfl
      · rw [if_pos c2] at hf
        refine r_ldc X dX8_run_50 kk_X8_223 ?_
        try subst hf
        exact r_ireturn X Y dX8_run_52 rfl rfl
    · rw [if_pos c1] at hf
      refine r_ldc X dX8_run_26 kk_X8_80 ?_
      try subst hf
      exact r_ireturn X Y dX8_run_28 rfl rfl

def f_Model_undo (W : Nat → Nat → Int32) (past : Nat → Int32) (nac : Nat) : Int32 × (Nat → Nat → Int32) × Nat := (if (nI nac) = (0 : Int32) then ((-1000002 : Int32), W, nac) else (nI (nac - 1), va_up W 0 (f_copies past (W 0) (41 * (nac - 1)) 0), nac - 1))
set_option maxRecDepth 20000 in
set_option maxHeartbeats 4000000 in
theorem c_Model_undo {G : mG} {h : mHp} {b : Nat} {lane : Nat → Int32} {many : Nat → Nat} {items : Nat → Int32} {spare : Nat → Int32} {stat : Int32} {tape : Nat → Int32} {taped : Nat} {fk : Int32} {fp : Int32} {mat : Nat} {mst : Nat} {tok : Int32} {mval : Int32} {W : Nat → Nat → Int32} {past : Nat → Int32} {nac : Nat} {imgs : Nat → Int32} {kept : Nat → Int32} {gvn : Nat → Int32} {costs : Nat → Int32} {lst : Nat → Int32} {sets : Nat → Int32} {bst : Int32} {mlo : Int64} {mal : Int32} {mpr : Nat → Int64} {lak : Nat → Int64} {trc : Nat → Int32} {ntr : Nat}   (hac : nac ≤ 16) : Ret G 1 mX8_undo [.ref b] (ov h b (modL b lane many items spare stat tape taped fk fp mat mst tok mval W past nac imgs kept gvn costs lst sets bst mlo mal mpr lak trc ntr)) (some (.int (f_Model_undo W past nac).1)) (ov h b (modL b lane many items spare stat tape taped fk fp mat mst tok mval (f_Model_undo W past nac).2.1 past (f_Model_undo W past nac).2.2 imgs kept gvn costs lst sets bst mlo mal mpr lak trc ntr)) := by
  generalize hf : f_Model_undo W past nac = R
  unfold f_Model_undo at hf
  refine Ret.of [(0, .ref b)] (by decide) (Nat.le_of_ble_eq_true rfl) rfl ?_
  rintro Z rfl X Y
  have hv_b : isV (ov h b (modL b lane many items spare stat tape taped fk fp mat mst tok mval W past nac imgs kept gvn costs lst sets bst mlo mal mpr lak trc ntr)) b (modL b lane many items spare stat tape taped fk fp mat mst tok mval W past nac imgs kept gvn costs lst sets bst mlo mal mpr lak trc ntr) := ov_isV
  refine r_aload_n X 0 dX8_undo_0 rfl ?_
  refine gf_X8_158 X dX8_undo_1 (hv_b 0 _ rfl) rfl ?_
  refine r_if_ne X 10 dX8_undo_4 rfl (fun c0 => ?_) (fun c0 => ?_)
  · rw [if_neg c0] at hf
    have hx : 0 < nac := Nat.pos_of_ne_zero (fun e => c0 (by rw [e]; rfl))
    refine r_aload_n X 0 dX8_undo_10 rfl ?_
    refine r_dup X dX8_undo_11 rfl ?_
    refine gf_X8_158 X dX8_undo_12 (hv_b 0 _ rfl) rfl ?_
    refine r_iconst X (1 : Int32) dX8_undo_15 (by decide) ?_
    refine r_isubn X (a := nac) (b := 1) dX8_undo_16 (by omega) ?_
    refine pf_X8_158 X dX8_undo_17 (hv_b 0 _ rfl) (Nat.le_of_ble_eq_true rfl) ?_
    refine SW.heq (h2 := (ov h b (modL b lane many items spare stat tape taped fk fp mat mst tok mval W past (nac - 1) imgs kept gvn costs lst sets bst mlo mal mpr lak trc ntr))) (ov_up 0 (Nat.le_of_ble_eq_true rfl) rfl) ?_
    have hv_b : isV (ov h b (modL b lane many items spare stat tape taped fk fp mat mst tok mval W past (nac - 1) imgs kept gvn costs lst sets bst mlo mal mpr lak trc ntr)) b (modL b lane many items spare stat tape taped fk fp mat mst tok mval W past (nac - 1) imgs kept gvn costs lst sets bst mlo mal mpr lak trc ntr) := ov_isV
    refine r_aload_n X 0 dX8_undo_20 rfl ?_
    refine gf_X8_34 X dX8_undo_21 (hv_b 0 _ rfl) rfl ?_
    refine r_bipush X (41 : Int32) dX8_undo_24 (by decide) ?_
    refine r_aload_n X 0 dX8_undo_26 rfl ?_
    refine gf_X8_158 X dX8_undo_27 (hv_b 0 _ rfl) rfl ?_
    refine r_imuln X (a := 41) (b := nac - 1) dX8_undo_30 ?_
    refine r_aload_n X 0 dX8_undo_31 rfl ?_
    refine gf_X8_25 X dX8_undo_32 (hv_b 0 _ rfl) rfl ?_
    refine r_iconst X (0 : Int32) dX8_undo_35 (by decide) ?_
    refine cl_X8_154 X (by decide) dX8_undo_36 (Nat.le_of_ble_eq_true rfl) (c_copies_up (a := 41 * (nac - 1)) (c := 0) (hv_b 9 _ rfl) (hv_b (6 + 0) _ (modL_W (by omega))) (by omega) (by omega) (by omega)) ?_
    refine SW.heq (h2 := (ov h b (modL b lane many items spare stat tape taped fk fp mat mst tok mval (va_up W 0 (f_copies past (W 0) (41 * (nac - 1)) 0)) past (nac - 1) imgs kept gvn costs lst sets bst mlo mal mpr lak trc ntr))) (ov_up (6 + 0) (show _ < 19 by omega) (modL_Wset (by omega))) ?_
    have hv_b : isV (ov h b (modL b lane many items spare stat tape taped fk fp mat mst tok mval (va_up W 0 (f_copies past (W 0) (41 * (nac - 1)) 0)) past (nac - 1) imgs kept gvn costs lst sets bst mlo mal mpr lak trc ntr)) b (modL b lane many items spare stat tape taped fk fp mat mst tok mval (va_up W 0 (f_copies past (W 0) (41 * (nac - 1)) 0)) past (nac - 1) imgs kept gvn costs lst sets bst mlo mal mpr lak trc ntr) := ov_isV
    refine r_aload_n X 0 dX8_undo_39 rfl ?_
    refine gf_X8_158 X dX8_undo_40 (hv_b 0 _ rfl) rfl ?_
    try subst hf
    exact r_ireturn X Y dX8_undo_43 rfl rfl
  · rw [if_pos c0] at hf
    refine r_ldc X dX8_undo_7 kk_X8_223 ?_
    try subst hf
    exact r_ireturn X Y dX8_undo_9 rfl rfl

def f_Model_hour (W : Nat → Nat → Int32) (hr : Int32) (v : Int32) (U : Nat) (Hh : Nat) : Int32 := (if (f_Model_isHour hr Hh) = (0 : Int32) then (-1000001 : Int32) else (if v = (0 : Int32) then (W 0) (3 + (hr.toNatClampNeg)) else (if v = (1 : Int32) then (f_Model_onAt (W 0) (nI (hr.toNatClampNeg)) U) else (if v = (2 : Int32) then (f_Model_sumOf (W 0) (f_Model_onAt (W 0) (nI (hr.toNatClampNeg)) U) (f_Model_startingAt (W 0) (nI (hr.toNatClampNeg)) U) (v - (2 : Int32)) U) else (if v = (3 : Int32) then (f_Model_sumOf (W 0) (f_Model_onAt (W 0) (nI (hr.toNatClampNeg)) U) (f_Model_startingAt (W 0) (nI (hr.toNatClampNeg)) U) (v - (2 : Int32)) U) else (if v = (4 : Int32) then if (f_Model_isMet (W 0) (hr.toNatClampNeg) (f_Model_onAt (W 0) (nI (hr.toNatClampNeg)) U) (f_Model_startingAt (W 0) (nI (hr.toNatClampNeg)) U) U) = (0 : Int32) then (0 : Int32) else (1 : Int32) else (-1000001 : Int32)))))))
set_option maxRecDepth 20000 in
set_option maxHeartbeats 4000000 in
theorem c_Model_hour {G : mG} {h : mHp} {b : Nat} {lane : Nat → Int32} {many : Nat → Nat} {items : Nat → Int32} {spare : Nat → Int32} {stat : Int32} {tape : Nat → Int32} {taped : Nat} {fk : Int32} {fp : Int32} {mat : Nat} {mst : Nat} {tok : Int32} {mval : Int32} {W : Nat → Nat → Int32} {past : Nat → Int32} {nac : Nat} {imgs : Nat → Int32} {kept : Nat → Int32} {gvn : Nat → Int32} {costs : Nat → Int32} {lst : Nat → Int32} {sets : Nat → Int32} {bst : Int32} {mlo : Int64} {mal : Int32} {mpr : Nat → Int64} {lak : Nat → Int64} {trc : Nat → Int32} {ntr : Nat} {hr : Int32} {v : Int32} {U : Nat} {Hh : Nat} (hv_b : isV h b (modL b lane many items spare stat tape taped fk fp mat mst tok mval W past nac imgs kept gvn costs lst sets bst mlo mal mpr lak trc ntr))  (h0 : W 0 0 = nI U) (hU : U ≤ 4) (h1 : W 0 1 = nI Hh) (hH : Hh ≤ 6) : Ret G 4 mX8_hour [.ref b, .int hr, .int v] h (some (.int (f_Model_hour W hr v U Hh))) h := by
  generalize hf : f_Model_hour W hr v U Hh = R
  unfold f_Model_hour at hf
  refine Ret.of [(0, .ref b), (1, .int hr), (2, .int v)] (by decide) (Nat.le_of_ble_eq_true rfl) rfl ?_
  rintro Z rfl X Y
  refine r_aload_n X 0 dX8_hour_0 rfl ?_
  refine r_iload_n X 1 dX8_hour_1 rfl ?_
  refine cl_X8_233 X (by decide) dX8_hour_2 (Nat.le_of_ble_eq_true rfl) (hv_b 0 _ rfl) (c_Model_isHour hv_b (by first | assumption | omega) (by first | assumption | omega)) ?_
  refine r_if_ne X 11 dX8_hour_5 rfl (fun cu => ?_) (fun cu => ?_)
  · rw [if_neg cu] at hf
    obtain ⟨k, hk, rfl⟩ := isHour_nat hH cu
    try simp only [nI_clamp (show k < 2 ^ 31 by omega)] at hf
    refine r_aload_n X 0 dX8_hour_11 rfl ?_
    refine gf_X8_25 X dX8_hour_12 (hv_b 0 _ rfl) rfl ?_
    refine r_iload_n X 1 dX8_hour_15 rfl ?_
    refine cl_X8_246 X (by decide) dX8_hour_16 (Nat.le_of_ble_eq_true rfl) (c_Model_onAt (isV1 (hv_b (6 + 0) _ (modL_W (by omega)))) (by first | assumption | omega) (by first | assumption | omega)) ?_
    refine r_istore_n [(0, .ref b), (1, .int (nI k)), (2, .int v), (3, .int (f_Model_onAt (W 0) (nI k) U))] X dX8_hour_19 rfl (by decide) rfl ?_
    refine r_aload_n X 0 dX8_hour_20 rfl ?_
    refine gf_X8_25 X dX8_hour_21 (hv_b 0 _ rfl) rfl ?_
    refine r_iload_n X 1 dX8_hour_24 rfl ?_
    refine cl_X8_249 X (by decide) dX8_hour_25 (Nat.le_of_ble_eq_true rfl) (c_Model_startingAt (isV1 (hv_b (6 + 0) _ (modL_W (by omega)))) (by first | assumption | omega) (by first | assumption | omega)) ?_
    refine r_istore [(0, .ref b), (1, .int (nI k)), (2, .int v), (3, .int (f_Model_onAt (W 0) (nI k) U)), (4, .int (f_Model_startingAt (W 0) (nI k) U))] X dX8_hour_28 (by decide) rfl ?_
    refine r_iload_n X 2 dX8_hour_30 rfl ?_
    by_cases c1 : v = (0 : Int32)
    · rw [if_pos c1] at hf
      refine r_tsin X 64 dX8_hour_31 (by rw [c1]; decide) (by rw [c1]; decide) (by rw [c1]; rfl) rfl ?_
      refine r_aload_n X 0 dX8_hour_64 rfl ?_
      refine gf_X8_25 X dX8_hour_65 (hv_b 0 _ rfl) rfl ?_
      refine r_iconst X (3 : Int32) dX8_hour_68 (by decide) ?_
      refine r_iload_n X 1 dX8_hour_69 rfl ?_
      refine r_iaddn X (a := 3) (b := k) dX8_hour_70 ?_
      refine r_ialdn X (k0 := 3 + k) dX8_hour_71 (hv_b (6 + 0) _ (modL_W (by omega))) (by omega) (by decide) ?_
      try subst hf
      exact r_ireturn X Y dX8_hour_72 rfl rfl
    · rw [if_neg c1] at hf
      by_cases c2 : v = (1 : Int32)
      · rw [if_pos c2] at hf
        refine r_tsin X 73 dX8_hour_31 (by rw [c2]; decide) (by rw [c2]; decide) (by rw [c2]; rfl) rfl ?_
        refine r_iload_n X 3 dX8_hour_73 rfl ?_
        try subst hf
        exact r_ireturn X Y dX8_hour_74 rfl rfl
      · rw [if_neg c2] at hf
        by_cases c3 : v = (2 : Int32)
        · rw [if_pos c3] at hf
          refine r_tsin X 75 dX8_hour_31 (by rw [c3]; decide) (by rw [c3]; decide) (by rw [c3]; rfl) rfl ?_
          refine r_aload_n X 0 dX8_hour_75 rfl ?_
          refine gf_X8_25 X dX8_hour_76 (hv_b 0 _ rfl) rfl ?_
          refine r_iload_n X 3 dX8_hour_79 rfl ?_
          refine r_iload X 4 dX8_hour_80 rfl ?_
          refine r_iload_n X 2 dX8_hour_82 rfl ?_
          refine r_iconst X (2 : Int32) dX8_hour_83 (by decide) ?_
          refine r_isub X dX8_hour_84 ?_
          refine cl_X8_179 X (by decide) dX8_hour_85 (Nat.le_of_ble_eq_true rfl) (c_Model_sumOf (isV1 (hv_b (6 + 0) _ (modL_W (by omega)))) (by first | assumption | omega) (by first | assumption | omega)) ?_
          try subst hf
          exact r_ireturn X Y dX8_hour_88 rfl rfl
        · rw [if_neg c3] at hf
          by_cases c4 : v = (3 : Int32)
          · rw [if_pos c4] at hf
            refine r_tsin X 75 dX8_hour_31 (by rw [c4]; decide) (by rw [c4]; decide) (by rw [c4]; rfl) rfl ?_
            refine r_aload_n X 0 dX8_hour_75 rfl ?_
            refine gf_X8_25 X dX8_hour_76 (hv_b 0 _ rfl) rfl ?_
            refine r_iload_n X 3 dX8_hour_79 rfl ?_
            refine r_iload X 4 dX8_hour_80 rfl ?_
            refine r_iload_n X 2 dX8_hour_82 rfl ?_
            refine r_iconst X (2 : Int32) dX8_hour_83 (by decide) ?_
            refine r_isub X dX8_hour_84 ?_
            refine cl_X8_179 X (by decide) dX8_hour_85 (Nat.le_of_ble_eq_true rfl) (c_Model_sumOf (isV1 (hv_b (6 + 0) _ (modL_W (by omega)))) (by first | assumption | omega) (by first | assumption | omega)) ?_
            try subst hf
            exact r_ireturn X Y dX8_hour_88 rfl rfl
          · rw [if_neg c4] at hf
            by_cases c5 : v = (4 : Int32)
            · rw [if_pos c5] at hf
              refine r_tsin X 89 dX8_hour_31 (by rw [c5]; decide) (by rw [c5]; decide) (by rw [c5]; rfl) rfl ?_
              refine r_aload_n X 0 dX8_hour_89 rfl ?_
              refine gf_X8_25 X dX8_hour_90 (hv_b 0 _ rfl) rfl ?_
              refine r_iload_n X 1 dX8_hour_93 rfl ?_
              refine r_iload_n X 3 dX8_hour_94 rfl ?_
              refine r_iload X 4 dX8_hour_95 rfl ?_
              refine cl_X8_186 X (by decide) dX8_hour_97 (Nat.le_of_ble_eq_true rfl) (c_Model_isMet (isV1 (hv_b (6 + 0) _ (modL_W (by omega)))) (by first | assumption | omega) (by first | assumption | omega) (by first | assumption | omega)) ?_
              refine m_join (P := SW Z 108 [] [.int (if (f_Model_isMet (W 0) k (f_Model_onAt (W 0) (nI k) U) (f_Model_startingAt (W 0) (nI k) U) U) = (0 : Int32) then (0 : Int32) else (1 : Int32))] h) (fun K => ?_) ?_
              · refine r_if_eq X 107 dX8_hour_100 rfl (fun c6 => ?_) (fun c6 => ?_)
                · skip
                  refine r_iconst X (0 : Int32) dX8_hour_107 (by decide) ?_
                  refine SW.pick [] [] rfl ?_
                  try simp only [if_pos c6] at K ⊢
                  exact K
                · skip
                  refine r_iconst X (1 : Int32) dX8_hour_103 (by decide) ?_
                  refine r_goto X 108 dX8_hour_104 rfl ?_
                  refine SW.pick [] [] rfl ?_
                  try simp only [if_neg c6] at K ⊢
                  exact K
              try subst hf
              exact r_ireturn X Y dX8_hour_108 rfl rfl
            · rw [if_neg c5] at hf
              refine r_tsout X 109 dX8_hour_31 (by have a0 : ¬ v.toInt = 0 := i32_ne c1; have a1 : ¬ v.toInt = 1 := i32_ne c2; have a2 : ¬ v.toInt = 2 := i32_ne c3; have a3 : ¬ v.toInt = 3 := i32_ne c4; have a4 : ¬ v.toInt = 4 := i32_ne c5; omega) rfl ?_
              refine r_ldc X dX8_hour_109 kk_X8_80 ?_
              try subst hf
              exact r_ireturn X Y dX8_hour_111 rfl rfl
  · rw [if_pos cu] at hf
    refine r_ldc X dX8_hour_8 kk_X8_80 ?_
    try subst hf
    exact r_ireturn X Y dX8_hour_10 rfl rfl

def f_Model_gives (W : Nat → Nat → Int32) (gvn : Nat → Int32) (u : Int32) (hr : Int32) (U : Nat) (Hh : Nat) : Int32 × (Nat → Int32) := (if (f_Model_isUnit u U) = (0 : Int32) then ((-1000001 : Int32), gvn) else (if (f_Model_isHour hr Hh) = (0 : Int32) then ((-1000001 : Int32), gvn) else (if (f_Model_isMet (W 0) (hr.toNatClampNeg) (f_Model_onAt (W 0) (nI (hr.toNatClampNeg)) U) (f_Model_startingAt (W 0) (nI (hr.toNatClampNeg)) U) U) = (0 : Int32) then ((-1000000 : Int32), gvn) else ((fun q1 => (q1.2 (u.toNatClampNeg), q1.2)) (f_Model_shares W gvn (hr.toNatClampNeg) (f_Model_onAt (W 0) (nI (hr.toNatClampNeg)) U) (f_Model_startingAt (W 0) (nI (hr.toNatClampNeg)) U) 0 U)))))
set_option maxRecDepth 20000 in
set_option maxHeartbeats 4000000 in
theorem c_Model_gives {G : mG} {h : mHp} {b : Nat} {lane : Nat → Int32} {many : Nat → Nat} {items : Nat → Int32} {spare : Nat → Int32} {stat : Int32} {tape : Nat → Int32} {taped : Nat} {fk : Int32} {fp : Int32} {mat : Nat} {mst : Nat} {tok : Int32} {mval : Int32} {W : Nat → Nat → Int32} {past : Nat → Int32} {nac : Nat} {imgs : Nat → Int32} {kept : Nat → Int32} {gvn : Nat → Int32} {costs : Nat → Int32} {lst : Nat → Int32} {sets : Nat → Int32} {bst : Int32} {mlo : Int64} {mal : Int32} {mpr : Nat → Int64} {lak : Nat → Int64} {trc : Nat → Int32} {ntr : Nat} {u : Int32} {hr : Int32} {U : Nat} {Hh : Nat}   (h0 : W 0 0 = nI U) (hU : U ≤ 4) (h1 : W 0 1 = nI Hh) (hH : Hh ≤ 6) : Ret G 4 mX8_gives [.ref b, .int u, .int hr] (ov h b (modL b lane many items spare stat tape taped fk fp mat mst tok mval W past nac imgs kept gvn costs lst sets bst mlo mal mpr lak trc ntr)) (some (.int (f_Model_gives W gvn u hr U Hh).1)) (ov h b (modL b lane many items spare stat tape taped fk fp mat mst tok mval W past nac imgs kept (f_Model_gives W gvn u hr U Hh).2 costs lst sets bst mlo mal mpr lak trc ntr)) := by
  generalize hf : f_Model_gives W gvn u hr U Hh = R
  unfold f_Model_gives at hf
  refine Ret.of [(0, .ref b), (1, .int u), (2, .int hr)] (by decide) (Nat.le_of_ble_eq_true rfl) rfl ?_
  rintro Z rfl X Y
  have hv_b : isV (ov h b (modL b lane many items spare stat tape taped fk fp mat mst tok mval W past nac imgs kept gvn costs lst sets bst mlo mal mpr lak trc ntr)) b (modL b lane many items spare stat tape taped fk fp mat mst tok mval W past nac imgs kept gvn costs lst sets bst mlo mal mpr lak trc ntr) := ov_isV
  refine r_aload_n X 0 dX8_gives_0 rfl ?_
  refine r_iload_n X 1 dX8_gives_1 rfl ?_
  refine cl_X8_220 X (by decide) dX8_gives_2 (Nat.le_of_ble_eq_true rfl) (hv_b 0 _ rfl) (c_Model_isUnit hv_b (by first | assumption | omega) (by first | assumption | omega)) ?_
  refine r_if_eq X 16 dX8_gives_5 rfl (fun cu => ?_) (fun cu => ?_)
  · rw [if_pos cu] at hf
    refine r_ldc X dX8_gives_16 kk_X8_80 ?_
    try subst hf
    exact r_ireturn X Y dX8_gives_18 rfl rfl
  · rw [if_neg cu] at hf
    obtain ⟨k, hk, rfl⟩ := isUnit_nat hU cu
    try simp only [nI_clamp (show k < 2 ^ 31 by omega)] at hf
    refine r_aload_n X 0 dX8_gives_8 rfl ?_
    refine r_iload_n X 2 dX8_gives_9 rfl ?_
    refine cl_X8_233 X (by decide) dX8_gives_10 (Nat.le_of_ble_eq_true rfl) (hv_b 0 _ rfl) (c_Model_isHour hv_b (by first | assumption | omega) (by first | assumption | omega)) ?_
    refine r_if_ne X 19 dX8_gives_13 rfl (fun cv => ?_) (fun cv => ?_)
    · rw [if_neg cv] at hf
      obtain ⟨kh, hkh, rfl⟩ := isHour_nat hH cv
      try simp only [nI_clamp (show kh < 2 ^ 31 by omega)] at hf
      refine r_aload_n X 0 dX8_gives_19 rfl ?_
      refine gf_X8_25 X dX8_gives_20 (hv_b 0 _ rfl) rfl ?_
      refine r_iload_n X 2 dX8_gives_23 rfl ?_
      refine cl_X8_246 X (by decide) dX8_gives_24 (Nat.le_of_ble_eq_true rfl) (c_Model_onAt (isV1 (hv_b (6 + 0) _ (modL_W (by omega)))) (by first | assumption | omega) (by first | assumption | omega)) ?_
      refine r_istore_n [(0, .ref b), (1, .int (nI k)), (2, .int (nI kh)), (3, .int (f_Model_onAt (W 0) (nI kh) U))] X dX8_gives_27 rfl (by decide) rfl ?_
      refine r_aload_n X 0 dX8_gives_28 rfl ?_
      refine gf_X8_25 X dX8_gives_29 (hv_b 0 _ rfl) rfl ?_
      refine r_iload_n X 2 dX8_gives_32 rfl ?_
      refine cl_X8_249 X (by decide) dX8_gives_33 (Nat.le_of_ble_eq_true rfl) (c_Model_startingAt (isV1 (hv_b (6 + 0) _ (modL_W (by omega)))) (by first | assumption | omega) (by first | assumption | omega)) ?_
      refine r_istore [(0, .ref b), (1, .int (nI k)), (2, .int (nI kh)), (3, .int (f_Model_onAt (W 0) (nI kh) U)), (4, .int (f_Model_startingAt (W 0) (nI kh) U))] X dX8_gives_36 (by decide) rfl ?_
      refine r_aload_n X 0 dX8_gives_38 rfl ?_
      refine gf_X8_25 X dX8_gives_39 (hv_b 0 _ rfl) rfl ?_
      refine r_iload_n X 2 dX8_gives_42 rfl ?_
      refine r_iload_n X 3 dX8_gives_43 rfl ?_
      refine r_iload X 4 dX8_gives_44 rfl ?_
      refine cl_X8_186 X (by decide) dX8_gives_46 (Nat.le_of_ble_eq_true rfl) (c_Model_isMet (isV1 (hv_b (6 + 0) _ (modL_W (by omega)))) (by first | assumption | omega) (by first | assumption | omega) (by first | assumption | omega)) ?_
      refine r_if_ne X 55 dX8_gives_49 rfl (fun c1 => ?_) (fun c1 => ?_)
      · rw [if_neg c1] at hf
        refine r_aload_n X 0 dX8_gives_55 rfl ?_
        refine r_aload_n X 0 dX8_gives_56 rfl ?_
        refine gf_X8_25 X dX8_gives_57 (hv_b 0 _ rfl) rfl ?_
        refine r_iload_n X 2 dX8_gives_60 rfl ?_
        refine r_iload_n X 3 dX8_gives_61 rfl ?_
        refine r_iload X 4 dX8_gives_62 rfl ?_
        refine cl_X8_190 X (by decide) dX8_gives_64 (Nat.le_of_ble_eq_true rfl) (hv_b 0 _ rfl) (c_Model_shares  (by first | assumption | omega) (by first | assumption | omega) (by first | assumption | omega) (by first | assumption | omega)) ?_
        obtain ⟨q1, eq1⟩ : ∃ q, q = f_Model_shares W gvn kh (f_Model_onAt (W 0) (nI kh) U) (f_Model_startingAt (W 0) (nI kh) U) 0 U := ⟨_, rfl⟩
        rw [← eq1]
        rw [← eq1] at hf
        try dsimp only at hf
        have hv_b : isV (ov h b (modL b lane many items spare stat tape taped fk fp mat mst tok mval W past nac imgs kept q1.2 costs lst sets bst mlo mal mpr lak trc ntr)) b (modL b lane many items spare stat tape taped fk fp mat mst tok mval W past nac imgs kept q1.2 costs lst sets bst mlo mal mpr lak trc ntr) := ov_isV
        refine r_pop X dX8_gives_67 rfl ?_
        refine r_aload_n X 0 dX8_gives_68 rfl ?_
        refine gf_X8_44 X dX8_gives_69 (hv_b 0 _ rfl) rfl ?_
        refine r_iload_n X 1 dX8_gives_72 rfl ?_
        refine r_ialdn X (k0 := k) dX8_gives_73 (hv_b 12 _ rfl) (by omega) (by decide) ?_
        try subst hf
        exact r_ireturn X Y dX8_gives_74 rfl rfl
      · rw [if_pos c1] at hf
        refine r_ldc X dX8_gives_52 kk_X8_66 ?_
        try subst hf
        exact r_ireturn X Y dX8_gives_54 rfl rfl
    · rw [if_pos cv] at hf
      refine r_ldc X dX8_gives_16 kk_X8_80 ?_
      try subst hf
      exact r_ireturn X Y dX8_gives_18 rfl rfl

def f_Model_as (stat : Int32) (W : Nat → Nat → Int32) (u : Int32) (kd : Int32) (U : Nat) : Int32 × Int32 := (if (f_Model_isUnit u U) = (0 : Int32) then ((-1000001 : Int32), stat) else (if (f_Model_in kd (0 : Int32) (5 : Int32)) = (0 : Int32) then ((-1000001 : Int32), stat) else (if (if kd = (0 : Int32) then (1 : Int32) else if kd = (f_Model_kindIn W (u.toNatClampNeg)) then (1 : Int32) else if kd = (1 : Int32) then if (f_Model_kindIn W (u.toNatClampNeg)) < (4 : Int32) then (1 : Int32) else if kd = (4 : Int32) then if (f_Model_kindIn W (u.toNatClampNeg)) = (5 : Int32) then (1 : Int32) else (0 : Int32) else (0 : Int32) else if kd = (4 : Int32) then if (f_Model_kindIn W (u.toNatClampNeg)) = (5 : Int32) then (1 : Int32) else (0 : Int32) else (0 : Int32)) = (0 : Int32) then ((fun q1 => (q1.1, q1.2)) (f_Model_found (3 : Int32))) else ((fun q2 => (q2.1, q2.2)) (f_Model_well (nI (u.toNatClampNeg)))))))
set_option maxRecDepth 20000 in
set_option maxHeartbeats 4000000 in
theorem c_Model_as {G : mG} {h : mHp} {b : Nat} {lane : Nat → Int32} {many : Nat → Nat} {items : Nat → Int32} {spare : Nat → Int32} {stat : Int32} {tape : Nat → Int32} {taped : Nat} {fk : Int32} {fp : Int32} {mat : Nat} {mst : Nat} {tok : Int32} {mval : Int32} {W : Nat → Nat → Int32} {past : Nat → Int32} {nac : Nat} {imgs : Nat → Int32} {kept : Nat → Int32} {gvn : Nat → Int32} {costs : Nat → Int32} {lst : Nat → Int32} {sets : Nat → Int32} {bst : Int32} {mlo : Int64} {mal : Int32} {mpr : Nat → Int64} {lak : Nat → Int64} {trc : Nat → Int32} {ntr : Nat} {u : Int32} {kd : Int32} {U : Nat}   (h0 : W 0 0 = nI U) (hU : U ≤ 4) : Ret G 2 mX8_as [.ref b, .int u, .int kd] (ov h b (modL b lane many items spare stat tape taped fk fp mat mst tok mval W past nac imgs kept gvn costs lst sets bst mlo mal mpr lak trc ntr)) (some (.int (f_Model_as stat W u kd U).1)) (ov h b (modL b lane many items spare (f_Model_as stat W u kd U).2 tape taped fk fp mat mst tok mval W past nac imgs kept gvn costs lst sets bst mlo mal mpr lak trc ntr)) := by
  generalize hf : f_Model_as stat W u kd U = R
  unfold f_Model_as at hf
  refine Ret.of [(0, .ref b), (1, .int u), (2, .int kd)] (by decide) (Nat.le_of_ble_eq_true rfl) rfl ?_
  rintro Z rfl X Y
  have hv_b : isV (ov h b (modL b lane many items spare stat tape taped fk fp mat mst tok mval W past nac imgs kept gvn costs lst sets bst mlo mal mpr lak trc ntr)) b (modL b lane many items spare stat tape taped fk fp mat mst tok mval W past nac imgs kept gvn costs lst sets bst mlo mal mpr lak trc ntr) := ov_isV
  refine r_aload_n X 0 dX8_as_0 rfl ?_
  refine r_iload_n X 1 dX8_as_1 rfl ?_
  refine cl_X8_220 X (by decide) dX8_as_2 (Nat.le_of_ble_eq_true rfl) (hv_b 0 _ rfl) (c_Model_isUnit hv_b (by first | assumption | omega) (by first | assumption | omega)) ?_
  refine r_if_eq X 17 dX8_as_5 rfl (fun cu => ?_) (fun cu => ?_)
  · rw [if_pos cu] at hf
    refine r_ldc X dX8_as_17 kk_X8_80 ?_
    try subst hf
    exact r_ireturn X Y dX8_as_19 rfl rfl
  · rw [if_neg cu] at hf
    obtain ⟨k, hk, rfl⟩ := isUnit_nat hU cu
    try simp only [nI_clamp (show k < 2 ^ 31 by omega)] at hf
    refine r_iload_n X 2 dX8_as_8 rfl ?_
    refine r_iconst X (0 : Int32) dX8_as_9 (by decide) ?_
    refine r_iconst X (5 : Int32) dX8_as_10 (by decide) ?_
    refine cl_X8_72 X (by decide) dX8_as_11 (Nat.le_of_ble_eq_true rfl) (c_Model_in  ) ?_
    refine r_if_ne X 20 dX8_as_14 rfl (fun c1 => ?_) (fun c1 => ?_)
    · rw [if_neg c1] at hf
      refine r_aload_n X 0 dX8_as_20 rfl ?_
      refine r_iload_n X 1 dX8_as_21 rfl ?_
      refine cl_X8_295 X (by decide) dX8_as_22 (Nat.le_of_ble_eq_true rfl) (hv_b 0 _ rfl) (c_Model_kindIn hv_b (by first | assumption | omega)) ?_
      refine r_istore_n [(0, .ref b), (1, .int (nI k)), (2, .int kd), (3, .int (f_Model_kindIn W k))] X dX8_as_25 rfl (by decide) rfl ?_
      refine r_iload_n X 2 dX8_as_26 rfl ?_
      refine m_join (P := SW Z 60 [(0, .ref b), (1, .int (nI k))] [.int (if kd = (0 : Int32) then (1 : Int32) else if kd = (f_Model_kindIn W k) then (1 : Int32) else if kd = (1 : Int32) then if (f_Model_kindIn W k) < (4 : Int32) then (1 : Int32) else if kd = (4 : Int32) then if (f_Model_kindIn W k) = (5 : Int32) then (1 : Int32) else (0 : Int32) else (0 : Int32) else if kd = (4 : Int32) then if (f_Model_kindIn W k) = (5 : Int32) then (1 : Int32) else (0 : Int32) else (0 : Int32))] (ov h b (modL b lane many items spare stat tape taped fk fp mat mst tok mval W past nac imgs kept gvn costs lst sets bst mlo mal mpr lak trc ntr))) (fun K => ?_) ?_
      · refine r_if_eq X 55 dX8_as_27 rfl (fun c2 => ?_) (fun c2 => ?_)
        · skip
          refine r_iconst X (1 : Int32) dX8_as_55 (by decide) ?_
          refine r_goto X 60 dX8_as_56 rfl ?_
          refine SW.pick [0, 1] [(0, .ref b), (1, .int (nI k))] rfl ?_
          try simp only [if_pos c2] at K ⊢
          exact K
        · skip
          refine r_iload_n X 2 dX8_as_30 rfl ?_
          refine r_iload_n X 3 dX8_as_31 rfl ?_
          refine m_join (P := SW Z 60 [(0, .ref b), (1, .int (nI k))] [.int (if kd = (f_Model_kindIn W k) then (1 : Int32) else if kd = (1 : Int32) then if (f_Model_kindIn W k) < (4 : Int32) then (1 : Int32) else if kd = (4 : Int32) then if (f_Model_kindIn W k) = (5 : Int32) then (1 : Int32) else (0 : Int32) else (0 : Int32) else if kd = (4 : Int32) then if (f_Model_kindIn W k) = (5 : Int32) then (1 : Int32) else (0 : Int32) else (0 : Int32))] (ov h b (modL b lane many items spare stat tape taped fk fp mat mst tok mval W past nac imgs kept gvn costs lst sets bst mlo mal mpr lak trc ntr))) (fun K => ?_) ?_
          · refine r_icmp_eq X 55 dX8_as_32 rfl (fun c3 => ?_) (fun c3 => ?_)
            · skip
              refine r_iconst X (1 : Int32) dX8_as_55 (by decide) ?_
              refine r_goto X 60 dX8_as_56 rfl ?_
              refine SW.pick [0, 1] [(0, .ref b), (1, .int (nI k))] rfl ?_
              try simp only [if_pos c3] at K ⊢
              exact K
            · skip
              refine r_iload_n X 2 dX8_as_35 rfl ?_
              refine r_iconst X (1 : Int32) dX8_as_36 (by decide) ?_
              refine m_join (P := SW Z 60 [(0, .ref b), (1, .int (nI k))] [.int (if kd = (1 : Int32) then if (f_Model_kindIn W k) < (4 : Int32) then (1 : Int32) else if kd = (4 : Int32) then if (f_Model_kindIn W k) = (5 : Int32) then (1 : Int32) else (0 : Int32) else (0 : Int32) else if kd = (4 : Int32) then if (f_Model_kindIn W k) = (5 : Int32) then (1 : Int32) else (0 : Int32) else (0 : Int32))] (ov h b (modL b lane many items spare stat tape taped fk fp mat mst tok mval W past nac imgs kept gvn costs lst sets bst mlo mal mpr lak trc ntr))) (fun K => ?_) ?_
              · refine r_icmp_ne X 45 dX8_as_37 rfl (fun c4 => ?_) (fun c4 => ?_)
                · skip
                  refine r_iload_n X 2 dX8_as_45 rfl ?_
                  refine r_iconst X (4 : Int32) dX8_as_46 (by decide) ?_
                  refine m_join (P := SW Z 60 [(0, .ref b), (1, .int (nI k))] [.int (if kd = (4 : Int32) then if (f_Model_kindIn W k) = (5 : Int32) then (1 : Int32) else (0 : Int32) else (0 : Int32))] (ov h b (modL b lane many items spare stat tape taped fk fp mat mst tok mval W past nac imgs kept gvn costs lst sets bst mlo mal mpr lak trc ntr))) (fun K => ?_) ?_
                  · refine r_icmp_ne X 59 dX8_as_47 rfl (fun c5 => ?_) (fun c5 => ?_)
                    · skip
                      refine r_iconst X (0 : Int32) dX8_as_59 (by decide) ?_
                      refine SW.pick [0, 1] [(0, .ref b), (1, .int (nI k))] rfl ?_
                      try simp only [if_neg c5] at K ⊢
                      exact K
                    · skip
                      refine r_iload_n X 3 dX8_as_50 rfl ?_
                      refine r_iconst X (5 : Int32) dX8_as_51 (by decide) ?_
                      refine m_join (P := SW Z 60 [(0, .ref b), (1, .int (nI k))] [.int (if (f_Model_kindIn W k) = (5 : Int32) then (1 : Int32) else (0 : Int32))] (ov h b (modL b lane many items spare stat tape taped fk fp mat mst tok mval W past nac imgs kept gvn costs lst sets bst mlo mal mpr lak trc ntr))) (fun K => ?_) ?_
                      · refine r_icmp_ne X 59 dX8_as_52 rfl (fun c6 => ?_) (fun c6 => ?_)
                        · skip
                          refine r_iconst X (0 : Int32) dX8_as_59 (by decide) ?_
                          refine SW.pick [0, 1] [(0, .ref b), (1, .int (nI k))] rfl ?_
                          try simp only [if_neg c6] at K ⊢
                          exact K
                        · skip
                          refine r_iconst X (1 : Int32) dX8_as_55 (by decide) ?_
                          refine r_goto X 60 dX8_as_56 rfl ?_
                          refine SW.pick [0, 1] [(0, .ref b), (1, .int (nI k))] rfl ?_
                          try simp only [if_pos c6] at K ⊢
                          exact K
                      have hv_b : isV (ov h b (modL b lane many items spare stat tape taped fk fp mat mst tok mval W past nac imgs kept gvn costs lst sets bst mlo mal mpr lak trc ntr)) b (modL b lane many items spare stat tape taped fk fp mat mst tok mval W past nac imgs kept gvn costs lst sets bst mlo mal mpr lak trc ntr) := ov_isV
                      try simp only [if_pos c5] at K ⊢
                      exact K
                  have hv_b : isV (ov h b (modL b lane many items spare stat tape taped fk fp mat mst tok mval W past nac imgs kept gvn costs lst sets bst mlo mal mpr lak trc ntr)) b (modL b lane many items spare stat tape taped fk fp mat mst tok mval W past nac imgs kept gvn costs lst sets bst mlo mal mpr lak trc ntr) := ov_isV
                  try simp only [if_neg c4] at K ⊢
                  exact K
                · skip
                  refine r_iload_n X 3 dX8_as_40 rfl ?_
                  refine r_iconst X (4 : Int32) dX8_as_41 (by decide) ?_
                  refine m_join (P := SW Z 60 [(0, .ref b), (1, .int (nI k))] [.int (if (f_Model_kindIn W k) < (4 : Int32) then (1 : Int32) else if kd = (4 : Int32) then if (f_Model_kindIn W k) = (5 : Int32) then (1 : Int32) else (0 : Int32) else (0 : Int32))] (ov h b (modL b lane many items spare stat tape taped fk fp mat mst tok mval W past nac imgs kept gvn costs lst sets bst mlo mal mpr lak trc ntr))) (fun K => ?_) ?_
                  · refine r_icmp_lt X 55 dX8_as_42 rfl (fun c7 => ?_) (fun c7 => ?_)
                    · skip
                      refine r_iconst X (1 : Int32) dX8_as_55 (by decide) ?_
                      refine r_goto X 60 dX8_as_56 rfl ?_
                      refine SW.pick [0, 1] [(0, .ref b), (1, .int (nI k))] rfl ?_
                      try simp only [if_pos c7] at K ⊢
                      exact K
                    · skip
                      refine r_iload_n X 2 dX8_as_45 rfl ?_
                      refine r_iconst X (4 : Int32) dX8_as_46 (by decide) ?_
                      refine m_join (P := SW Z 60 [(0, .ref b), (1, .int (nI k))] [.int (if kd = (4 : Int32) then if (f_Model_kindIn W k) = (5 : Int32) then (1 : Int32) else (0 : Int32) else (0 : Int32))] (ov h b (modL b lane many items spare stat tape taped fk fp mat mst tok mval W past nac imgs kept gvn costs lst sets bst mlo mal mpr lak trc ntr))) (fun K => ?_) ?_
                      · refine r_icmp_ne X 59 dX8_as_47 rfl (fun c8 => ?_) (fun c8 => ?_)
                        · skip
                          refine r_iconst X (0 : Int32) dX8_as_59 (by decide) ?_
                          refine SW.pick [0, 1] [(0, .ref b), (1, .int (nI k))] rfl ?_
                          try simp only [if_neg c8] at K ⊢
                          exact K
                        · skip
                          refine r_iload_n X 3 dX8_as_50 rfl ?_
                          refine r_iconst X (5 : Int32) dX8_as_51 (by decide) ?_
                          refine m_join (P := SW Z 60 [(0, .ref b), (1, .int (nI k))] [.int (if (f_Model_kindIn W k) = (5 : Int32) then (1 : Int32) else (0 : Int32))] (ov h b (modL b lane many items spare stat tape taped fk fp mat mst tok mval W past nac imgs kept gvn costs lst sets bst mlo mal mpr lak trc ntr))) (fun K => ?_) ?_
                          · refine r_icmp_ne X 59 dX8_as_52 rfl (fun c9 => ?_) (fun c9 => ?_)
                            · skip
                              refine r_iconst X (0 : Int32) dX8_as_59 (by decide) ?_
                              refine SW.pick [0, 1] [(0, .ref b), (1, .int (nI k))] rfl ?_
                              try simp only [if_neg c9] at K ⊢
                              exact K
                            · skip
                              refine r_iconst X (1 : Int32) dX8_as_55 (by decide) ?_
                              refine r_goto X 60 dX8_as_56 rfl ?_
                              refine SW.pick [0, 1] [(0, .ref b), (1, .int (nI k))] rfl ?_
                              try simp only [if_pos c9] at K ⊢
                              exact K
                          have hv_b : isV (ov h b (modL b lane many items spare stat tape taped fk fp mat mst tok mval W past nac imgs kept gvn costs lst sets bst mlo mal mpr lak trc ntr)) b (modL b lane many items spare stat tape taped fk fp mat mst tok mval W past nac imgs kept gvn costs lst sets bst mlo mal mpr lak trc ntr) := ov_isV
                          try simp only [if_pos c8] at K ⊢
                          exact K
                      have hv_b : isV (ov h b (modL b lane many items spare stat tape taped fk fp mat mst tok mval W past nac imgs kept gvn costs lst sets bst mlo mal mpr lak trc ntr)) b (modL b lane many items spare stat tape taped fk fp mat mst tok mval W past nac imgs kept gvn costs lst sets bst mlo mal mpr lak trc ntr) := ov_isV
                      try simp only [if_neg c7] at K ⊢
                      exact K
                  have hv_b : isV (ov h b (modL b lane many items spare stat tape taped fk fp mat mst tok mval W past nac imgs kept gvn costs lst sets bst mlo mal mpr lak trc ntr)) b (modL b lane many items spare stat tape taped fk fp mat mst tok mval W past nac imgs kept gvn costs lst sets bst mlo mal mpr lak trc ntr) := ov_isV
                  try simp only [if_pos c4] at K ⊢
                  exact K
              have hv_b : isV (ov h b (modL b lane many items spare stat tape taped fk fp mat mst tok mval W past nac imgs kept gvn costs lst sets bst mlo mal mpr lak trc ntr)) b (modL b lane many items spare stat tape taped fk fp mat mst tok mval W past nac imgs kept gvn costs lst sets bst mlo mal mpr lak trc ntr) := ov_isV
              try simp only [if_neg c3] at K ⊢
              exact K
          have hv_b : isV (ov h b (modL b lane many items spare stat tape taped fk fp mat mst tok mval W past nac imgs kept gvn costs lst sets bst mlo mal mpr lak trc ntr)) b (modL b lane many items spare stat tape taped fk fp mat mst tok mval W past nac imgs kept gvn costs lst sets bst mlo mal mpr lak trc ntr) := ov_isV
          try simp only [if_neg c2] at K ⊢
          exact K
      have hv_b : isV (ov h b (modL b lane many items spare stat tape taped fk fp mat mst tok mval W past nac imgs kept gvn costs lst sets bst mlo mal mpr lak trc ntr)) b (modL b lane many items spare stat tape taped fk fp mat mst tok mval W past nac imgs kept gvn costs lst sets bst mlo mal mpr lak trc ntr) := ov_isV
      refine r_istore [(0, .ref b), (1, .int (nI k)), (4, .int (if kd = (0 : Int32) then (1 : Int32) else if kd = (f_Model_kindIn W k) then (1 : Int32) else if kd = (1 : Int32) then if (f_Model_kindIn W k) < (4 : Int32) then (1 : Int32) else if kd = (4 : Int32) then if (f_Model_kindIn W k) = (5 : Int32) then (1 : Int32) else (0 : Int32) else (0 : Int32) else if kd = (4 : Int32) then if (f_Model_kindIn W k) = (5 : Int32) then (1 : Int32) else (0 : Int32) else (0 : Int32)))] X dX8_as_60 (by decide) rfl ?_
      refine r_iload X 2 dX8_as_62 rfl ?_
      refine r_if_eq X 75 dX8_as_64 rfl (fun c10 => ?_) (fun c10 => ?_)
      · rw [if_pos c10] at hf
        refine r_aload_n X 0 dX8_as_75 rfl ?_
        refine r_iconst X (3 : Int32) dX8_as_76 (by decide) ?_
        refine cl_X8_81 X (by decide) dX8_as_77 (Nat.le_of_ble_eq_true rfl) (hv_b 0 _ rfl) (c_Model_found  ) ?_
        obtain ⟨q1, eq1⟩ : ∃ q, q = f_Model_found (3 : Int32) := ⟨_, rfl⟩
        rw [← eq1]
        rw [← eq1] at hf
        try dsimp only at hf
        have hv_b : isV (ov h b (modL b lane many items spare q1.2 tape taped fk fp mat mst tok mval W past nac imgs kept gvn costs lst sets bst mlo mal mpr lak trc ntr)) b (modL b lane many items spare q1.2 tape taped fk fp mat mst tok mval W past nac imgs kept gvn costs lst sets bst mlo mal mpr lak trc ntr) := ov_isV
        try subst hf
        exact r_ireturn X Y dX8_as_80 rfl rfl
      · rw [if_neg c10] at hf
        refine r_aload_n X 0 dX8_as_67 rfl ?_
        refine r_iload_n X 1 dX8_as_68 rfl ?_
        refine cl_X8_85 X (by decide) dX8_as_69 (Nat.le_of_ble_eq_true rfl) (hv_b 0 _ rfl) (c_Model_well  ) ?_
        obtain ⟨q2, eq2⟩ : ∃ q, q = f_Model_well (nI k) := ⟨_, rfl⟩
        rw [← eq2]
        rw [← eq2] at hf
        try dsimp only at hf
        have hv_b : isV (ov h b (modL b lane many items spare q2.2 tape taped fk fp mat mst tok mval W past nac imgs kept gvn costs lst sets bst mlo mal mpr lak trc ntr)) b (modL b lane many items spare q2.2 tape taped fk fp mat mst tok mval W past nac imgs kept gvn costs lst sets bst mlo mal mpr lak trc ntr) := ov_isV
        refine r_goto X 80 dX8_as_72 rfl ?_
        try subst hf
        exact r_ireturn X Y dX8_as_80 rfl rfl
    · rw [if_pos c1] at hf
      refine r_ldc X dX8_as_17 kk_X8_80 ?_
      try subst hf
      exact r_ireturn X Y dX8_as_19 rfl rfl
