theorem in_nat {v : Int32} {N : Nat} (hN : N ≤ 2 ^ 30) (h : ¬ f_Model_in v 0 (nI N - 1) = 0) : ∃ k, k < N ∧ v = nI k := by
  unfold f_Model_in at h
  by_cases c1 : v < 0
  · rw [if_pos c1] at h; exact absurd rfl h
  · rw [if_neg c1] at h
    by_cases c2 : nI N - 1 < v
    · rw [if_pos c2] at h; exact absurd rfl h
    · obtain ⟨j, hj, rfl⟩ := nI_of c1
      refine ⟨j, ?_, rfl⟩
      rcases Nat.lt_or_ge j N with q | q
      · exact q
      · refine absurd ?_ c2
        rcases Nat.eq_zero_or_pos N with e | e
        · subst e
          rw [Int32.lt_iff_toInt_lt, nI_toInt hj]
          have : (nI 0 - 1).toInt = -1 := by decide
          omega
        · rw [pk_sub (b := 1) (a := N) (by omega)]
          exact nI_lt (by omega) hj
theorem inC_nat {v : Int32} {N : Nat} {c : Int32} (hc : c = nI N) (hN : N < 2 ^ 31) (h : ¬ f_Model_in v 0 c = 0) : ∃ k, k ≤ N ∧ v = nI k := by
  subst hc
  unfold f_Model_in at h
  by_cases c1 : v < 0
  · rw [if_pos c1] at h; exact absurd rfl h
  · rw [if_neg c1] at h
    by_cases c2 : nI N < v
    · rw [if_pos c2] at h; exact absurd rfl h
    · obtain ⟨j, hj, rfl⟩ := nI_of c1
      refine ⟨j, ?_, rfl⟩
      rcases Nat.lt_or_ge N j with q | q
      · exact absurd (nI_lt q hj) c2
      · exact q
theorem isRow_nat {v : Int32} (h : ¬ f_Model_isRow v = 0) : ∃ k, k < 8 ∧ v = nI k := by
  obtain ⟨k, hk, e⟩ := inC_nat (N := 7) (c := 7) rfl (by decide) h
  exact ⟨k, by omega, e⟩

theorem le_nat {v : Int32} {N : Nat} (h0 : ¬ v < 0) (h : ¬ nI N < v) : ∃ k, k ≤ N ∧ v = nI k := by
  obtain ⟨j, hj, rfl⟩ := nI_of h0
  refine ⟨j, ?_, rfl⟩
  rcases Nat.lt_or_ge N j with q | q
  · exact absurd (nI_lt q hj) h
  · exact q

def f_Model_row_L52s (n1 : Nat) (k52 : Nat) (items : Nat → Int32) : (Nat → Int32) := upd items ((40 * n1) + k52) (0 : Int32)
def f_Model_row_L52 (n1 : Nat) (items : Nat → Int32) : Nat → (Nat → Int32)
  | 0 => items
  | k52 + 1 => f_Model_row_L52s n1 k52 (f_Model_row_L52 n1 items k52)
def f_Model_row (lane : Nat → Int32) (many : Nat → Nat) (items : Nat → Int32) (stat : Int32) (row : Int32) (la : Int32) (n : Int32) : Int32 × (Nat → Int32) × (Nat → Nat) × (Nat → Int32) × Int32 := (if (f_Model_isRow row) = (0 : Int32) then ((-1000001 : Int32), lane, many, items, stat) else (if (f_Model_in la (0 : Int32) (2 : Int32)) = (0 : Int32) then ((-1000001 : Int32), lane, many, items, stat) else (if (40 : Int32) < n then ((-1000001 : Int32), lane, many, items, stat) else (if n < (0 : Int32) then ((fun q2 => (q2.1, lane, many, items, q2.2)) (f_Model_found (4 : Int32))) else ((fun q1 => (q1.1, upd lane (row.toNatClampNeg) la, va_up many (row.toNatClampNeg) (n.toNatClampNeg), (f_Model_row_L52 (row.toNatClampNeg) items 40), q1.2)) (f_Model_well (nI (n.toNatClampNeg))))))))
set_option maxRecDepth 20000 in
set_option maxHeartbeats 4000000 in
theorem c_Model_row {G : mG} {h : mHp} {b : Nat} {lane : Nat → Int32} {many : Nat → Nat} {items : Nat → Int32} {spare : Nat → Int32} {stat : Int32} {tape : Nat → Int32} {taped : Nat} {fk : Int32} {fp : Int32} {mat : Nat} {mst : Nat} {tok : Int32} {mval : Int32} {W : Nat → Nat → Int32} {past : Nat → Int32} {nac : Nat} {imgs : Nat → Int32} {kept : Nat → Int32} {gvn : Nat → Int32} {costs : Nat → Int32} {lst : Nat → Int32} {sets : Nat → Int32} {bst : Int32} {mlo : Int64} {mal : Int32} {mpr : Nat → Int64} {lak : Nat → Int64} {trc : Nat → Int32} {ntr : Nat} {row : Int32} {la : Int32} {n : Int32}   (hm : ∀ j, j < 8 → many j ≤ 40) : Ret G 2 mX8_row [.ref b, .int row, .int la, .int n] (ov h b (modL b lane many items spare stat tape taped fk fp mat mst tok mval W past nac imgs kept gvn costs lst sets bst mlo mal mpr lak trc ntr)) (some (.int (f_Model_row lane many items stat row la n).1)) (ov h b (modL b (f_Model_row lane many items stat row la n).2.1 (f_Model_row lane many items stat row la n).2.2.1 (f_Model_row lane many items stat row la n).2.2.2.1 spare (f_Model_row lane many items stat row la n).2.2.2.2 tape taped fk fp mat mst tok mval W past nac imgs kept gvn costs lst sets bst mlo mal mpr lak trc ntr)) := by
  generalize hf : f_Model_row lane many items stat row la n = R
  unfold f_Model_row at hf
  refine Ret.of [(0, .ref b), (1, .int row), (2, .int la), (3, .int n)] (by decide) (Nat.le_of_ble_eq_true rfl) rfl ?_
  rintro Z rfl X Y
  have hv_b : isV (ov h b (modL b lane many items spare stat tape taped fk fp mat mst tok mval W past nac imgs kept gvn costs lst sets bst mlo mal mpr lak trc ntr)) b (modL b lane many items spare stat tape taped fk fp mat mst tok mval W past nac imgs kept gvn costs lst sets bst mlo mal mpr lak trc ntr) := ov_isV
  refine r_iload_n X 1 dX8_row_0 rfl ?_
  refine cl_X8_76 X (by decide) dX8_row_1 (Nat.le_of_ble_eq_true rfl) (c_Model_isRow  ) ?_
  refine r_if_eq X 22 dX8_row_4 rfl (fun cr => ?_) (fun cr => ?_)
  · rw [if_pos cr] at hf
    refine r_ldc X dX8_row_22 kk_X8_80 ?_
    try subst hf
    exact r_ireturn X Y dX8_row_24 rfl rfl
  · rw [if_neg cr] at hf
    obtain ⟨r, hr, rfl⟩ := isRow_nat cr
    try simp only [nI_clamp (show r < 2 ^ 31 by omega)] at hf
    refine r_iload_n X 2 dX8_row_7 rfl ?_
    refine r_iconst X (0 : Int32) dX8_row_8 (by decide) ?_
    refine r_iconst X (2 : Int32) dX8_row_9 (by decide) ?_
    refine cl_X8_72 X (by decide) dX8_row_10 (Nat.le_of_ble_eq_true rfl) (c_Model_in  ) ?_
    refine r_if_eq X 22 dX8_row_13 rfl (fun c1 => ?_) (fun c1 => ?_)
    · rw [if_pos c1] at hf
      refine r_ldc X dX8_row_22 kk_X8_80 ?_
      try subst hf
      exact r_ireturn X Y dX8_row_24 rfl rfl
    · rw [if_neg c1] at hf
      refine r_iload_n X 3 dX8_row_16 rfl ?_
      refine r_bipush X (40 : Int32) dX8_row_17 (by decide) ?_
      refine r_icmp_le X 25 dX8_row_19 rfl (fun c40 => ?_) (fun c40 => ?_)
      · rw [if_neg c40] at hf
        refine r_iload_n X 3 dX8_row_25 rfl ?_
        refine r_if_ge X 35 dX8_row_26 rfl (fun c0 => ?_) (fun c0 => ?_)
        · rw [if_neg c0] at hf
          obtain ⟨m, hm, rfl⟩ := le_nat (N := 40) c0 c40
          try simp only [nI_clamp (show m < 2 ^ 31 by omega)] at hf
          refine r_aload_n X 0 dX8_row_35 rfl ?_
          refine gf_X8_7 X dX8_row_36 (hv_b 0 _ rfl) rfl ?_
          refine r_iload_n X 1 dX8_row_39 rfl ?_
          refine r_iload_n X 2 dX8_row_40 rfl ?_
          refine r_iastn X (k0 := r) dX8_row_41 (hv_b 1 _ rfl) (by omega) (by first | decide | omega) ?_
          refine SW.heq (h2 := (ov h b (modL b (upd lane r la) many items spare stat tape taped fk fp mat mst tok mval W past nac imgs kept gvn costs lst sets bst mlo mal mpr lak trc ntr))) (ov_up 1 (Nat.le_of_ble_eq_true rfl) rfl) ?_
          have hv_b : isV (ov h b (modL b (upd lane r la) many items spare stat tape taped fk fp mat mst tok mval W past nac imgs kept gvn costs lst sets bst mlo mal mpr lak trc ntr)) b (modL b (upd lane r la) many items spare stat tape taped fk fp mat mst tok mval W past nac imgs kept gvn costs lst sets bst mlo mal mpr lak trc ntr) := ov_isV
          refine r_aload_n X 0 dX8_row_42 rfl ?_
          refine gf_X8_13 X dX8_row_43 (hv_b 0 _ rfl) rfl ?_
          refine r_iload_n X 1 dX8_row_46 rfl ?_
          refine r_iload_n X 3 dX8_row_47 rfl ?_
          refine r_iastn X (k0 := r) dX8_row_48 (hv_b 2 _ rfl) (by omega) (by first | decide | omega) ?_
          refine SW.heq (h2 := (ov h b (modL b (upd lane r la) (va_up many r m) items spare stat tape taped fk fp mat mst tok mval W past nac imgs kept gvn costs lst sets bst mlo mal mpr lak trc ntr))) (by rw [show upd (fun j => nI (many j)) r (nI m) = _ from updN many r m]; exact ov_up 2 (Nat.le_of_ble_eq_true rfl) rfl) ?_
          have hv_b : isV (ov h b (modL b (upd lane r la) (va_up many r m) items spare stat tape taped fk fp mat mst tok mval W past nac imgs kept gvn costs lst sets bst mlo mal mpr lak trc ntr)) b (modL b (upd lane r la) (va_up many r m) items spare stat tape taped fk fp mat mst tok mval W past nac imgs kept gvn costs lst sets bst mlo mal mpr lak trc ntr) := ov_isV
          refine r_iconst X (0 : Int32) dX8_row_49 (by decide) ?_
          refine r_istore [(0, .ref b), (1, .int (nI r)), (2, .int la), (3, .int (nI m)), (4, .int (0 : Int32))] X dX8_row_50 (by decide) rfl ?_
          refine SW.pick [0, 1, 3, 4] [(0, .ref b), (1, .int (nI r)), (3, .int (nI m)), (4, .int (0 : Int32))] rfl ?_
          refine loop_up (P := fun k2 => SW Z 52 [(0, .ref b), (1, .int (nI r)), (3, .int (nI m)), (4, .int (nI k2))] [] (ov h b (modL b (upd lane r la) (va_up many r m) (f_Model_row_L52 r items k2) spare stat tape taped fk fp mat mst tok mval W past nac imgs kept gvn costs lst sets bst mlo mal mpr lak trc ntr))) 40 ?_ ?_ 0 (Nat.zero_le _)
          rotate_left
          · intro k2 hk2 ih
            have hv_b : isV (ov h b (modL b (upd lane r la) (va_up many r m) (f_Model_row_L52 r items k2) spare stat tape taped fk fp mat mst tok mval W past nac imgs kept gvn costs lst sets bst mlo mal mpr lak trc ntr)) b (modL b (upd lane r la) (va_up many r m) (f_Model_row_L52 r items k2) spare stat tape taped fk fp mat mst tok mval W past nac imgs kept gvn costs lst sets bst mlo mal mpr lak trc ntr) := ov_isV
            refine r_iload X 3 dX8_row_52 rfl ?_
            refine r_bipush X (40 : Int32) dX8_row_54 (by decide) ?_
            refine r_icmp_ge X 78 dX8_row_56 rfl (fun z => absurd (nI_lt (a := k2) (b := 40) (by omega) (by omega)) z) (fun _ => ?_)
            refine r_aload_n X 0 dX8_row_59 rfl ?_
            refine gf_X8_16 X dX8_row_60 (hv_b 0 _ rfl) rfl ?_
            refine r_bipush X (40 : Int32) dX8_row_63 (by decide) ?_
            refine r_iload_n X 1 dX8_row_65 rfl ?_
            refine r_imuln X (a := 40) (b := r) dX8_row_66 ?_
            refine r_iload X 3 dX8_row_67 rfl ?_
            refine r_iaddn X (a := 40 * r) (b := k2) dX8_row_69 ?_
            refine r_iconst X (0 : Int32) dX8_row_70 (by decide) ?_
            refine r_iastn X (k0 := (40 * r) + k2) dX8_row_71 (hv_b 3 _ rfl) (by omega) (by first | decide | omega) ?_
            refine SW.heq (h2 := (ov h b (modL b (upd lane r la) (va_up many r m) (upd (f_Model_row_L52 r items k2) ((40 * r) + k2) (0 : Int32)) spare stat tape taped fk fp mat mst tok mval W past nac imgs kept gvn costs lst sets bst mlo mal mpr lak trc ntr))) (ov_up 3 (Nat.le_of_ble_eq_true rfl) rfl) ?_
            have hv_b : isV (ov h b (modL b (upd lane r la) (va_up many r m) (upd (f_Model_row_L52 r items k2) ((40 * r) + k2) (0 : Int32)) spare stat tape taped fk fp mat mst tok mval W past nac imgs kept gvn costs lst sets bst mlo mal mpr lak trc ntr)) b (modL b (upd lane r la) (va_up many r m) (upd (f_Model_row_L52 r items k2) ((40 * r) + k2) (0 : Int32)) spare stat tape taped fk fp mat mst tok mval W past nac imgs kept gvn costs lst sets bst mlo mal mpr lak trc ntr) := ov_isV
            refine r_iinc [(0, .ref b), (1, .int (nI r)), (3, .int (nI m)), (4, .int (nI (k2 + 1)))] X (nI (k2 + 1)) 3 dX8_row_72 rfl (nI_succ _).symm (by decide) rfl ?_
            refine r_goto X 52 dX8_row_75 rfl ?_
            exact ih
          have hv_b : isV (ov h b (modL b (upd lane r la) (va_up many r m) (f_Model_row_L52 r items 40) spare stat tape taped fk fp mat mst tok mval W past nac imgs kept gvn costs lst sets bst mlo mal mpr lak trc ntr)) b (modL b (upd lane r la) (va_up many r m) (f_Model_row_L52 r items 40) spare stat tape taped fk fp mat mst tok mval W past nac imgs kept gvn costs lst sets bst mlo mal mpr lak trc ntr) := ov_isV
          refine r_iload X 3 dX8_row_52 rfl ?_
          refine r_bipush X (40 : Int32) dX8_row_54 (by decide) ?_
          refine r_icmp_ge X 78 dX8_row_56 rfl (fun _ => ?_) (fun z => absurd z (nI_nlt (a := 40) (b := 40) (by omega) (by omega)))
          refine r_aload_n X 0 dX8_row_78 rfl ?_
          refine r_iload_n X 2 dX8_row_79 rfl ?_
          refine cl_X8_85 X (by decide) dX8_row_80 (Nat.le_of_ble_eq_true rfl) (hv_b 0 _ rfl) (c_Model_well  ) ?_
          obtain ⟨q1, eq1⟩ : ∃ q, q = f_Model_well (nI m) := ⟨_, rfl⟩
          rw [← eq1]
          rw [← eq1] at hf
          try dsimp only at hf
          have hv_b : isV (ov h b (modL b (upd lane r la) (va_up many r m) (f_Model_row_L52 r items 40) spare q1.2 tape taped fk fp mat mst tok mval W past nac imgs kept gvn costs lst sets bst mlo mal mpr lak trc ntr)) b (modL b (upd lane r la) (va_up many r m) (f_Model_row_L52 r items 40) spare q1.2 tape taped fk fp mat mst tok mval W past nac imgs kept gvn costs lst sets bst mlo mal mpr lak trc ntr) := ov_isV
          try subst hf
          exact r_ireturn X Y dX8_row_83 rfl rfl
        · rw [if_pos c0] at hf
          refine r_aload_n X 0 dX8_row_29 rfl ?_
          refine r_iconst X (4 : Int32) dX8_row_30 (by decide) ?_
          refine cl_X8_81 X (by decide) dX8_row_31 (Nat.le_of_ble_eq_true rfl) (hv_b 0 _ rfl) (c_Model_found  ) ?_
          obtain ⟨q2, eq2⟩ : ∃ q, q = f_Model_found (4 : Int32) := ⟨_, rfl⟩
          rw [← eq2]
          rw [← eq2] at hf
          try dsimp only at hf
          have hv_b : isV (ov h b (modL b lane many items spare q2.2 tape taped fk fp mat mst tok mval W past nac imgs kept gvn costs lst sets bst mlo mal mpr lak trc ntr)) b (modL b lane many items spare q2.2 tape taped fk fp mat mst tok mval W past nac imgs kept gvn costs lst sets bst mlo mal mpr lak trc ntr) := ov_isV
          try subst hf
          exact r_ireturn X Y dX8_row_34 rfl rfl
      · rw [if_pos c40] at hf
        refine r_ldc X dX8_row_22 kk_X8_80 ?_
        try subst hf
        exact r_ireturn X Y dX8_row_24 rfl rfl
