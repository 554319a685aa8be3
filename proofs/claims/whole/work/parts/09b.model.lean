theorem copies_L {f g : Nat → Int32} {a c : Nat} : ∀ k j, f_copies_L3 f a c g k j = if c ≤ j ∧ j < c + k then f (a + (j - c)) else g j := by
  intro k
  induction k with
  | zero => intro j; rw [if_neg (by omega)]; rfl
  | succ k ih =>
    intro j
    show upd (f_copies_L3 f a c g k) (c + k) (f (a + k)) j = _
    by_cases hj : j = c + k
    · subst hj
      rw [pk_us, if_pos ⟨by omega, by omega⟩, show c + k - c = k by omega]
    · rw [pk_un hj, ih j]
      by_cases q : c ≤ j ∧ j < c + k
      · rw [if_pos q, if_pos ⟨q.1, by omega⟩]
      · rw [if_neg q, if_neg (by omega)]
theorem copies_eq {f g : Nat → Int32} {a c j : Nat} : f_copies f g a c j = if c ≤ j ∧ j < c + 41 then f (a + (j - c)) else g j := copies_L 41 j
theorem copies0 {f g : Nat → Int32} {j : Nat} (h : j < 41) : f_copies f g 0 0 j = f j := by
  rw [copies_eq, if_pos ⟨Nat.zero_le _, by omega⟩, Nat.zero_add, Nat.sub_zero]
theorem tr_at {W : Nat → Nat → Int32} {i : Nat} {f : Nat → Int32} {x : Int32} {j : Nat} (h : f j = x) : (va_up W i f) i j = x := by
  rw [vu_self]; exact h
theorem tr_cp {f g : Nat → Int32} {j k : Nat} {x v : Int32} (hj : j < 41) (hk : j ≠ k) (h : f j = x) : upd (f_copies f g 0 0) k v j = x := by
  rw [pk_un hk, copies0 hj]; exact h

def f_Model_best (W : Nat → Nat → Int32) (gvn : Nat → Int32) (costs : Nat → Int32) (lst : Nat → Int32) (sets : Nat → Int32) (bst : Int32) (wh : Int32) (U : Nat) (Hh : Nat) : Int32 × (Nat → Int32) × (Nat → Int32) × (Nat → Int32) × (Nat → Int32) × Int32 := (if (f_Model_isDay W) = (0 : Int32) then ((-1000002 : Int32), gvn, costs, lst, sets, bst) else (if wh = (-1 : Int32) then (lt_ (f_Model_bestCost W gvn costs lst sets (-1000000 : Int32) 0 U Hh) (fun q1 => (if q1.1 = (-1000000 : Int32) then (q1.1, q1.2.1, q1.2.2.1, q1.2.2.2.1, q1.2.2.2.2.1, q1.2.2.2.2.2) else (if wh = (-1 : Int32) then (q1.1, q1.2.1, q1.2.2.1, q1.2.2.2.1, q1.2.2.2.2.1, q1.2.2.2.2.2) else (q1.2.2.2.2.1 wh.toNatClampNeg, q1.2.1, q1.2.2.1, q1.2.2.2.1, q1.2.2.2.2.1, q1.2.2.2.2.2))))) else (if (f_Model_isHour wh Hh) = (0 : Int32) then ((-1000001 : Int32), gvn, costs, lst, sets, bst) else (lt_ (f_Model_bestCost W gvn costs lst sets (-1000000 : Int32) 0 U Hh) (fun q2 => (if q2.1 = (-1000000 : Int32) then (q2.1, q2.2.1, q2.2.2.1, q2.2.2.2.1, q2.2.2.2.2.1, q2.2.2.2.2.2) else (if wh = (-1 : Int32) then (q2.1, q2.2.1, q2.2.2.1, q2.2.2.2.1, q2.2.2.2.2.1, q2.2.2.2.2.2) else (q2.2.2.2.2.1 wh.toNatClampNeg, q2.2.1, q2.2.2.1, q2.2.2.2.1, q2.2.2.2.2.1, q2.2.2.2.2.2))))))))
set_option maxRecDepth 20000 in
set_option maxHeartbeats 4000000 in
theorem c_Model_best {G : mG} {h : mHp} {b : Nat} {lane : Nat → Int32} {many : Nat → Nat} {items : Nat → Int32} {spare : Nat → Int32} {stat : Int32} {tape : Nat → Int32} {taped : Nat} {fk : Int32} {fp : Int32} {mat : Nat} {mst : Nat} {tok : Int32} {mval : Int32} {W : Nat → Nat → Int32} {past : Nat → Int32} {nac : Nat} {imgs : Nat → Int32} {kept : Nat → Int32} {gvn : Nat → Int32} {costs : Nat → Int32} {lst : Nat → Int32} {sets : Nat → Int32} {bst : Int32} {mlo : Int64} {mal : Int32} {mpr : Nat → Int64} {lak : Nat → Int64} {trc : Nat → Int32} {ntr : Nat} {wh : Int32} {U : Nat} {Hh : Nat}   (h0 : W 0 0 = nI U) (hU : U ≤ 4) (h1 : W 0 1 = nI Hh) (hH : Hh ≤ 6) : Ret G 7 mX8_best [.ref b, .int wh] (ov h b (modL b lane many items spare stat tape taped fk fp mat mst tok mval W past nac imgs kept gvn costs lst sets bst mlo mal mpr lak trc ntr)) (some (.int (f_Model_best W gvn costs lst sets bst wh U Hh).1)) (ov h b (modL b lane many items spare stat tape taped fk fp mat mst tok mval W past nac imgs kept (f_Model_best W gvn costs lst sets bst wh U Hh).2.1 (f_Model_best W gvn costs lst sets bst wh U Hh).2.2.1 (f_Model_best W gvn costs lst sets bst wh U Hh).2.2.2.1 (f_Model_best W gvn costs lst sets bst wh U Hh).2.2.2.2.1 (f_Model_best W gvn costs lst sets bst wh U Hh).2.2.2.2.2 mlo mal mpr lak trc ntr)) := by
  generalize hf : f_Model_best W gvn costs lst sets bst wh U Hh = R
  unfold f_Model_best at hf
  refine Ret.of [(0, .ref b), (1, .int wh)] (by decide) (Nat.le_of_ble_eq_true rfl) rfl ?_
  rintro Z rfl X Y
  have hv_b : isV (ov h b (modL b lane many items spare stat tape taped fk fp mat mst tok mval W past nac imgs kept gvn costs lst sets bst mlo mal mpr lak trc ntr)) b (modL b lane many items spare stat tape taped fk fp mat mst tok mval W past nac imgs kept gvn costs lst sets bst mlo mal mpr lak trc ntr) := ov_isV
  refine r_aload_n X 0 dX8_best_0 rfl ?_
  refine cl_X8_227 X (by decide) dX8_best_1 (Nat.le_of_ble_eq_true rfl) (hv_b 0 _ rfl) (c_Model_isDay hv_b ) ?_
  refine r_if_ne X 10 dX8_best_4 rfl (fun c1 => ?_) (fun c1 => ?_)
  · rw [if_neg c1] at hf
    refine r_iload_n X 1 dX8_best_10 rfl ?_
    refine r_iconst X (-1 : Int32) dX8_best_11 (by decide) ?_
    refine r_icmp_eq X 26 dX8_best_12 rfl (fun ca => ?_) (fun ca => ?_)
    · rw [if_pos ca] at hf
      refine r_aload_n X 0 dX8_best_26 rfl ?_
      refine r_aload_n X 0 dX8_best_27 rfl ?_
      refine gf_X8_25 X dX8_best_28 (hv_b 0 _ rfl) rfl ?_
      refine r_ldc X dX8_best_31 kk_X8_66 ?_
      refine cl_X8_230 X (by decide) dX8_best_33 (Nat.le_of_ble_eq_true rfl) (hv_b 0 _ rfl) (c_Model_bestCost  (by first | assumption | omega) (by first | assumption | omega) (by first | assumption | omega) (by first | assumption | omega) (by first | assumption | omega)) ?_
      obtain ⟨q1, eq1⟩ : ∃ q, q = f_Model_bestCost W gvn costs lst sets (-1000000 : Int32) 0 U Hh := ⟨_, rfl⟩
      rw [← eq1]
      rw [← eq1] at hf
      rw [lt_eq] at hf
      have hv_b : isV (ov h b (modL b lane many items spare stat tape taped fk fp mat mst tok mval W past nac imgs kept q1.2.1 q1.2.2.1 q1.2.2.2.1 q1.2.2.2.2.1 q1.2.2.2.2.2 mlo mal mpr lak trc ntr)) b (modL b lane many items spare stat tape taped fk fp mat mst tok mval W past nac imgs kept q1.2.1 q1.2.2.1 q1.2.2.2.1 q1.2.2.2.2.1 q1.2.2.2.2.2 mlo mal mpr lak trc ntr) := ov_isV
      refine r_istore_n [(0, .ref b), (1, .int wh), (2, .int q1.1)] X dX8_best_36 rfl (by decide) rfl ?_
      refine r_iload_n X 2 dX8_best_37 rfl ?_
      refine r_ldc X dX8_best_38 kk_X8_66 ?_
      refine r_icmp_eq X 48 dX8_best_40 rfl (fun c2 => ?_) (fun c2 => ?_)
      · rw [if_pos c2] at hf
        refine r_iload_n X 2 dX8_best_48 rfl ?_
        refine r_goto X 58 dX8_best_49 rfl ?_
        try subst hf
        exact r_ireturn X Y dX8_best_58 rfl rfl
      · rw [if_neg c2] at hf
        refine r_iload_n X 1 dX8_best_43 rfl ?_
        refine r_iconst X (-1 : Int32) dX8_best_44 (by decide) ?_
        refine r_icmp_ne X 52 dX8_best_45 rfl (fun cb => ?_) (fun cb => ?_)
        · rw [if_neg cb] at hf
          refine r_aload_n X 0 dX8_best_52 rfl ?_
          refine gf_X8_53 X dX8_best_53 (hv_b 0 _ rfl) rfl ?_
          refine r_iload_n X 1 dX8_best_56 rfl ?_
          refine r_iald X _ dX8_best_57 (hv_b 15 _ rfl) (by first | exact isHour_in hH cv | exact absurd ca cb) rfl ?_
          try subst hf
          exact r_ireturn X Y dX8_best_58 rfl rfl
        · rw [if_pos cb] at hf
          refine r_iload_n X 2 dX8_best_48 rfl ?_
          refine r_goto X 58 dX8_best_49 rfl ?_
          try subst hf
          exact r_ireturn X Y dX8_best_58 rfl rfl
    · rw [if_neg ca] at hf
      refine r_aload_n X 0 dX8_best_15 rfl ?_
      refine r_iload_n X 1 dX8_best_16 rfl ?_
      refine cl_X8_233 X (by decide) dX8_best_17 (Nat.le_of_ble_eq_true rfl) (hv_b 0 _ rfl) (c_Model_isHour hv_b (by first | assumption | omega) (by first | assumption | omega)) ?_
      refine r_if_ne X 26 dX8_best_20 rfl (fun cv => ?_) (fun cv => ?_)
      · rw [if_neg cv] at hf
        refine r_aload_n X 0 dX8_best_26 rfl ?_
        refine r_aload_n X 0 dX8_best_27 rfl ?_
        refine gf_X8_25 X dX8_best_28 (hv_b 0 _ rfl) rfl ?_
        refine r_ldc X dX8_best_31 kk_X8_66 ?_
        refine cl_X8_230 X (by decide) dX8_best_33 (Nat.le_of_ble_eq_true rfl) (hv_b 0 _ rfl) (c_Model_bestCost  (by first | assumption | omega) (by first | assumption | omega) (by first | assumption | omega) (by first | assumption | omega) (by first | assumption | omega)) ?_
        obtain ⟨q2, eq2⟩ : ∃ q, q = f_Model_bestCost W gvn costs lst sets (-1000000 : Int32) 0 U Hh := ⟨_, rfl⟩
        rw [← eq2]
        rw [← eq2] at hf
        rw [lt_eq] at hf
        have hv_b : isV (ov h b (modL b lane many items spare stat tape taped fk fp mat mst tok mval W past nac imgs kept q2.2.1 q2.2.2.1 q2.2.2.2.1 q2.2.2.2.2.1 q2.2.2.2.2.2 mlo mal mpr lak trc ntr)) b (modL b lane many items spare stat tape taped fk fp mat mst tok mval W past nac imgs kept q2.2.1 q2.2.2.1 q2.2.2.2.1 q2.2.2.2.2.1 q2.2.2.2.2.2 mlo mal mpr lak trc ntr) := ov_isV
        refine r_istore_n [(0, .ref b), (1, .int wh), (2, .int q2.1)] X dX8_best_36 rfl (by decide) rfl ?_
        refine r_iload_n X 2 dX8_best_37 rfl ?_
        refine r_ldc X dX8_best_38 kk_X8_66 ?_
        refine r_icmp_eq X 48 dX8_best_40 rfl (fun c3 => ?_) (fun c3 => ?_)
        · rw [if_pos c3] at hf
          refine r_iload_n X 2 dX8_best_48 rfl ?_
          refine r_goto X 58 dX8_best_49 rfl ?_
          try subst hf
          exact r_ireturn X Y dX8_best_58 rfl rfl
        · rw [if_neg c3] at hf
          refine r_iload_n X 1 dX8_best_43 rfl ?_
          refine r_iconst X (-1 : Int32) dX8_best_44 (by decide) ?_
          refine r_icmp_ne X 52 dX8_best_45 rfl (fun cb => ?_) (fun cb => ?_)
          · rw [if_neg cb] at hf
            refine r_aload_n X 0 dX8_best_52 rfl ?_
            refine gf_X8_53 X dX8_best_53 (hv_b 0 _ rfl) rfl ?_
            refine r_iload_n X 1 dX8_best_56 rfl ?_
            refine r_iald X _ dX8_best_57 (hv_b 15 _ rfl) (by first | exact isHour_in hH cv | exact absurd ca cb) rfl ?_
            try subst hf
            exact r_ireturn X Y dX8_best_58 rfl rfl
          · rw [if_pos cb] at hf
            refine r_iload_n X 2 dX8_best_48 rfl ?_
            refine r_goto X 58 dX8_best_49 rfl ?_
            try subst hf
            exact r_ireturn X Y dX8_best_58 rfl rfl
      · rw [if_pos cv] at hf
        refine r_ldc X dX8_best_23 kk_X8_80 ?_
        try subst hf
        exact r_ireturn X Y dX8_best_25 rfl rfl
  · rw [if_pos c1] at hf
    refine r_ldc X dX8_best_7 kk_X8_223 ?_
    try subst hf
    exact r_ireturn X Y dX8_best_9 rfl rfl

def f_Model_gap (W : Nat → Nat → Int32) (gvn : Nat → Int32) (costs : Nat → Int32) (lst : Nat → Int32) (sets : Nat → Int32) (bst : Int32) (mlo : Int64) (mal : Int32) (mpr : Nat → Int64) (lak : Nat → Int64) (n : Int32) (U : Nat) (Hh : Nat) : Int32 × (Nat → Int32) × (Nat → Int32) × (Nat → Int32) × (Nat → Int32) × Int32 × Int64 × Int32 × (Nat → Int64) × (Nat → Int64) := (if (f_Model_isDay W) = (0 : Int32) then ((-1000002 : Int32), gvn, costs, lst, sets, bst, mlo, mal, mpr, lak) else (if (f_Model_in n (0 : Int32) (12 : Int32)) = (0 : Int32) then ((-1000001 : Int32), gvn, costs, lst, sets, bst, mlo, mal, mpr, lak) else (lt_ (f_Model_bestCost W gvn costs lst sets (-1000000 : Int32) 0 U Hh) (fun q1 => (if q1.1 = (-1000000 : Int32) then ((-1000000 : Int32), q1.2.1, q1.2.2.1, q1.2.2.2.1, q1.2.2.2.2.1, q1.2.2.2.2.2, mlo, mal, mpr, lak) else (lt_ (f_Model_moves W mlo mal mpr lak (n.toNatClampNeg) U Hh) (fun q2 => (q1.1 - q2.1.toInt32, q1.2.1, q1.2.2.1, q1.2.2.2.1, q1.2.2.2.2.1, q1.2.2.2.2.2, q2.2.1, q2.2.2.1, q2.2.2.2.1, q2.2.2.2.2))))))))
set_option maxRecDepth 20000 in
set_option maxHeartbeats 4000000 in
theorem c_Model_gap {G : mG} {h : mHp} {b : Nat} {lane : Nat → Int32} {many : Nat → Nat} {items : Nat → Int32} {spare : Nat → Int32} {stat : Int32} {tape : Nat → Int32} {taped : Nat} {fk : Int32} {fp : Int32} {mat : Nat} {mst : Nat} {tok : Int32} {mval : Int32} {W : Nat → Nat → Int32} {past : Nat → Int32} {nac : Nat} {imgs : Nat → Int32} {kept : Nat → Int32} {gvn : Nat → Int32} {costs : Nat → Int32} {lst : Nat → Int32} {sets : Nat → Int32} {bst : Int32} {mlo : Int64} {mal : Int32} {mpr : Nat → Int64} {lak : Nat → Int64} {trc : Nat → Int32} {ntr : Nat} {n : Int32} {U : Nat} {Hh : Nat}   (h0 : W 0 0 = nI U) (hU : U ≤ 4) (h1 : W 0 1 = nI Hh) (hH : Hh ≤ 6) : Ret G 7 mX8_gap [.ref b, .int n] (ov h b (modL b lane many items spare stat tape taped fk fp mat mst tok mval W past nac imgs kept gvn costs lst sets bst mlo mal mpr lak trc ntr)) (some (.int (f_Model_gap W gvn costs lst sets bst mlo mal mpr lak n U Hh).1)) (ov h b (modL b lane many items spare stat tape taped fk fp mat mst tok mval W past nac imgs kept (f_Model_gap W gvn costs lst sets bst mlo mal mpr lak n U Hh).2.1 (f_Model_gap W gvn costs lst sets bst mlo mal mpr lak n U Hh).2.2.1 (f_Model_gap W gvn costs lst sets bst mlo mal mpr lak n U Hh).2.2.2.1 (f_Model_gap W gvn costs lst sets bst mlo mal mpr lak n U Hh).2.2.2.2.1 (f_Model_gap W gvn costs lst sets bst mlo mal mpr lak n U Hh).2.2.2.2.2.1 (f_Model_gap W gvn costs lst sets bst mlo mal mpr lak n U Hh).2.2.2.2.2.2.1 (f_Model_gap W gvn costs lst sets bst mlo mal mpr lak n U Hh).2.2.2.2.2.2.2.1 (f_Model_gap W gvn costs lst sets bst mlo mal mpr lak n U Hh).2.2.2.2.2.2.2.2.1 (f_Model_gap W gvn costs lst sets bst mlo mal mpr lak n U Hh).2.2.2.2.2.2.2.2.2 trc ntr)) := by
  generalize hf : f_Model_gap W gvn costs lst sets bst mlo mal mpr lak n U Hh = R
  unfold f_Model_gap at hf
  refine Ret.of [(0, .ref b), (1, .int n)] (by decide) (Nat.le_of_ble_eq_true rfl) rfl ?_
  rintro Z rfl X Y
  have hv_b : isV (ov h b (modL b lane many items spare stat tape taped fk fp mat mst tok mval W past nac imgs kept gvn costs lst sets bst mlo mal mpr lak trc ntr)) b (modL b lane many items spare stat tape taped fk fp mat mst tok mval W past nac imgs kept gvn costs lst sets bst mlo mal mpr lak trc ntr) := ov_isV
  refine r_aload_n X 0 dX8_gap_0 rfl ?_
  refine cl_X8_227 X (by decide) dX8_gap_1 (Nat.le_of_ble_eq_true rfl) (hv_b 0 _ rfl) (c_Model_isDay hv_b ) ?_
  refine r_if_ne X 10 dX8_gap_4 rfl (fun c1 => ?_) (fun c1 => ?_)
  · rw [if_neg c1] at hf
    refine r_iload_n X 1 dX8_gap_10 rfl ?_
    refine r_iconst X (0 : Int32) dX8_gap_11 (by decide) ?_
    refine r_bipush X (12 : Int32) dX8_gap_12 (by decide) ?_
    refine cl_X8_72 X (by decide) dX8_gap_14 (Nat.le_of_ble_eq_true rfl) (c_Model_in  ) ?_
    refine r_if_ne X 23 dX8_gap_17 rfl (fun cn => ?_) (fun cn => ?_)
    · rw [if_neg cn] at hf
      obtain ⟨m, hm, rfl⟩ := inC_nat (N := 12) rfl (by decide) cn
      try simp only [nI_clamp (show m < 2 ^ 31 by omega)] at hf
      refine r_aload_n X 0 dX8_gap_23 rfl ?_
      refine r_aload_n X 0 dX8_gap_24 rfl ?_
      refine gf_X8_25 X dX8_gap_25 (hv_b 0 _ rfl) rfl ?_
      refine r_ldc X dX8_gap_28 kk_X8_66 ?_
      refine cl_X8_230 X (by decide) dX8_gap_30 (Nat.le_of_ble_eq_true rfl) (hv_b 0 _ rfl) (c_Model_bestCost  (by first | assumption | omega) (by first | assumption | omega) (by first | assumption | omega) (by first | assumption | omega) (by first | assumption | omega)) ?_
      obtain ⟨q1, eq1⟩ : ∃ q, q = f_Model_bestCost W gvn costs lst sets (-1000000 : Int32) 0 U Hh := ⟨_, rfl⟩
      rw [← eq1]
      rw [← eq1] at hf
      rw [lt_eq] at hf
      have hv_b : isV (ov h b (modL b lane many items spare stat tape taped fk fp mat mst tok mval W past nac imgs kept q1.2.1 q1.2.2.1 q1.2.2.2.1 q1.2.2.2.2.1 q1.2.2.2.2.2 mlo mal mpr lak trc ntr)) b (modL b lane many items spare stat tape taped fk fp mat mst tok mval W past nac imgs kept q1.2.1 q1.2.2.1 q1.2.2.2.1 q1.2.2.2.2.1 q1.2.2.2.2.2 mlo mal mpr lak trc ntr) := ov_isV
      refine r_istore_n [(0, .ref b), (1, .int (nI m)), (2, .int q1.1)] X dX8_gap_33 rfl (by decide) rfl ?_
      refine r_iload_n X 2 dX8_gap_34 rfl ?_
      refine r_ldc X dX8_gap_35 kk_X8_66 ?_
      refine r_icmp_ne X 45 dX8_gap_37 rfl (fun c2 => ?_) (fun c2 => ?_)
      · rw [if_neg c2] at hf
        refine r_iload_n X 2 dX8_gap_45 rfl ?_
        refine r_aload_n X 0 dX8_gap_46 rfl ?_
        refine r_iload_n X 1 dX8_gap_47 rfl ?_
        refine cl_X8_281 X (by decide) dX8_gap_48 (Nat.le_of_ble_eq_true rfl) (hv_b 0 _ rfl) (c_Model_moves  (by first | assumption | omega) (by first | assumption | omega) (by first | assumption | omega) (by first | assumption | omega) (by first | assumption | omega)) ?_
        obtain ⟨q2, eq2⟩ : ∃ q, q = f_Model_moves W mlo mal mpr lak m U Hh := ⟨_, rfl⟩
        rw [← eq2]
        rw [← eq2] at hf
        rw [lt_eq] at hf
        have hv_b : isV (ov h b (modL b lane many items spare stat tape taped fk fp mat mst tok mval W past nac imgs kept q1.2.1 q1.2.2.1 q1.2.2.2.1 q1.2.2.2.2.1 q1.2.2.2.2.2 q2.2.1 q2.2.2.1 q2.2.2.2.1 q2.2.2.2.2 trc ntr)) b (modL b lane many items spare stat tape taped fk fp mat mst tok mval W past nac imgs kept q1.2.1 q1.2.2.1 q1.2.2.2.1 q1.2.2.2.2.1 q1.2.2.2.2.2 q2.2.1 q2.2.2.1 q2.2.2.2.1 q2.2.2.2.2 trc ntr) := ov_isV
        refine r_l2i X dX8_gap_51 ?_
        refine r_isub X dX8_gap_52 ?_
        try subst hf
        exact r_ireturn X Y dX8_gap_53 rfl rfl
      · rw [if_pos c2] at hf
        refine r_ldc X dX8_gap_40 kk_X8_66 ?_
        refine r_goto X 53 dX8_gap_42 rfl ?_
        try subst hf
        exact r_ireturn X Y dX8_gap_53 rfl rfl
    · rw [if_pos cn] at hf
      refine r_ldc X dX8_gap_20 kk_X8_80 ?_
      try subst hf
      exact r_ireturn X Y dX8_gap_22 rfl rfl
  · rw [if_pos c1] at hf
    refine r_ldc X dX8_gap_7 kk_X8_223 ?_
    try subst hf
    exact r_ireturn X Y dX8_gap_9 rfl rfl

def f_Model_more (W : Nat → Nat → Int32) (gvn : Nat → Int32) (costs : Nat → Int32) (lst : Nat → Int32) (sets : Nat → Int32) (bst : Int32) (hr : Int32) (U : Nat) (Hh : Nat) : Int32 × (Nat → Nat → Int32) × (Nat → Int32) × (Nat → Int32) × (Nat → Int32) × (Nat → Int32) × Int32 := (if (f_Model_isHour hr Hh) = (0 : Int32) then ((-1000001 : Int32), W, gvn, costs, lst, sets, bst) else (lt_ (f_Model_bestCost W gvn costs lst sets (-1000000 : Int32) 0 U Hh) (fun q1 => (lt_ (f_Model_bestCost (va_up W 2 (upd (f_copies (W 0) (W 2) 0 0) (3 + (hr.toNatClampNeg)) (((f_copies (W 0) (W 2) 0 0) (3 + (hr.toNatClampNeg))) + (1 : Int32)))) q1.2.1 q1.2.2.1 q1.2.2.2.1 q1.2.2.2.2.1 (-1000000 : Int32) 2 U Hh) (fun q2 => (if q1.1 = (-1000000 : Int32) then (-1000000 : Int32) else if q2.1 = (-1000000 : Int32) then (-1000000 : Int32) else q2.1 - q1.1, va_up W 2 (upd (f_copies (W 0) (W 2) 0 0) (3 + (hr.toNatClampNeg)) (((f_copies (W 0) (W 2) 0 0) (3 + (hr.toNatClampNeg))) + (1 : Int32))), q2.2.1, q2.2.2.1, q2.2.2.2.1, q2.2.2.2.2.1, q2.2.2.2.2.2))))))
set_option maxRecDepth 20000 in
set_option maxHeartbeats 4000000 in
theorem c_Model_more {G : mG} {h : mHp} {b : Nat} {lane : Nat → Int32} {many : Nat → Nat} {items : Nat → Int32} {spare : Nat → Int32} {stat : Int32} {tape : Nat → Int32} {taped : Nat} {fk : Int32} {fp : Int32} {mat : Nat} {mst : Nat} {tok : Int32} {mval : Int32} {W : Nat → Nat → Int32} {past : Nat → Int32} {nac : Nat} {imgs : Nat → Int32} {kept : Nat → Int32} {gvn : Nat → Int32} {costs : Nat → Int32} {lst : Nat → Int32} {sets : Nat → Int32} {bst : Int32} {mlo : Int64} {mal : Int32} {mpr : Nat → Int64} {lak : Nat → Int64} {trc : Nat → Int32} {ntr : Nat} {hr : Int32} {U : Nat} {Hh : Nat}   (h0 : W 0 0 = nI U) (hU : U ≤ 4) (h1 : W 0 1 = nI Hh) (hH : Hh ≤ 6) : Ret G 7 mX8_more [.ref b, .int hr] (ov h b (modL b lane many items spare stat tape taped fk fp mat mst tok mval W past nac imgs kept gvn costs lst sets bst mlo mal mpr lak trc ntr)) (some (.int (f_Model_more W gvn costs lst sets bst hr U Hh).1)) (ov h b (modL b lane many items spare stat tape taped fk fp mat mst tok mval (f_Model_more W gvn costs lst sets bst hr U Hh).2.1 past nac imgs kept (f_Model_more W gvn costs lst sets bst hr U Hh).2.2.1 (f_Model_more W gvn costs lst sets bst hr U Hh).2.2.2.1 (f_Model_more W gvn costs lst sets bst hr U Hh).2.2.2.2.1 (f_Model_more W gvn costs lst sets bst hr U Hh).2.2.2.2.2.1 (f_Model_more W gvn costs lst sets bst hr U Hh).2.2.2.2.2.2 mlo mal mpr lak trc ntr)) := by
  generalize hf : f_Model_more W gvn costs lst sets bst hr U Hh = R
  unfold f_Model_more at hf
  refine Ret.of [(0, .ref b), (1, .int hr)] (by decide) (Nat.le_of_ble_eq_true rfl) rfl ?_
  rintro Z rfl X Y
  have hv_b : isV (ov h b (modL b lane many items spare stat tape taped fk fp mat mst tok mval W past nac imgs kept gvn costs lst sets bst mlo mal mpr lak trc ntr)) b (modL b lane many items spare stat tape taped fk fp mat mst tok mval W past nac imgs kept gvn costs lst sets bst mlo mal mpr lak trc ntr) := ov_isV
  refine r_aload_n X 0 dX8_more_0 rfl ?_
  refine r_iload_n X 1 dX8_more_1 rfl ?_
  refine cl_X8_233 X (by decide) dX8_more_2 (Nat.le_of_ble_eq_true rfl) (hv_b 0 _ rfl) (c_Model_isHour hv_b (by first | assumption | omega) (by first | assumption | omega)) ?_
  refine r_if_ne X 11 dX8_more_5 rfl (fun cu => ?_) (fun cu => ?_)
  · rw [if_neg cu] at hf
    obtain ⟨k, hk, rfl⟩ := isHour_nat hH cu
    try simp only [nI_clamp (show k < 2 ^ 31 by omega)] at hf
    refine r_aload_n X 0 dX8_more_11 rfl ?_
    refine r_aload_n X 0 dX8_more_12 rfl ?_
    refine gf_X8_25 X dX8_more_13 (hv_b 0 _ rfl) rfl ?_
    refine r_ldc X dX8_more_16 kk_X8_66 ?_
    refine cl_X8_230 X (by decide) dX8_more_18 (Nat.le_of_ble_eq_true rfl) (hv_b 0 _ rfl) (c_Model_bestCost  (by first | assumption | omega) (by first | assumption | omega) (by first | assumption | omega) (by first | assumption | omega) (by first | assumption | omega)) ?_
    obtain ⟨q1, eq1⟩ : ∃ q, q = f_Model_bestCost W gvn costs lst sets (-1000000 : Int32) 0 U Hh := ⟨_, rfl⟩
    rw [← eq1]
    rw [← eq1] at hf
    rw [lt_eq] at hf
    have hv_b : isV (ov h b (modL b lane many items spare stat tape taped fk fp mat mst tok mval W past nac imgs kept q1.2.1 q1.2.2.1 q1.2.2.2.1 q1.2.2.2.2.1 q1.2.2.2.2.2 mlo mal mpr lak trc ntr)) b (modL b lane many items spare stat tape taped fk fp mat mst tok mval W past nac imgs kept q1.2.1 q1.2.2.1 q1.2.2.2.1 q1.2.2.2.2.1 q1.2.2.2.2.2 mlo mal mpr lak trc ntr) := ov_isV
    refine r_istore_n [(0, .ref b), (1, .int (nI k)), (2, .int q1.1)] X dX8_more_21 rfl (by decide) rfl ?_
    refine r_aload_n X 0 dX8_more_22 rfl ?_
    refine gf_X8_25 X dX8_more_23 (hv_b 0 _ rfl) rfl ?_
    refine r_iconst X (0 : Int32) dX8_more_26 (by decide) ?_
    refine r_aload_n X 0 dX8_more_27 rfl ?_
    refine gf_X8_31 X dX8_more_28 (hv_b 0 _ rfl) rfl ?_
    refine r_iconst X (0 : Int32) dX8_more_31 (by decide) ?_
    refine cl_X8_154 X (by decide) dX8_more_32 (Nat.le_of_ble_eq_true rfl) (c_copies_up (a := 0) (c := 0) (hv_b (6 + 0) _ (modL_W (by omega))) (hv_b (6 + 2) _ (modL_W (by omega))) (by omega) (by omega) (by omega)) ?_
    refine SW.heq (h2 := (ov h b (modL b lane many items spare stat tape taped fk fp mat mst tok mval (va_up W 2 (f_copies (W 0) (W 2) 0 0)) past nac imgs kept q1.2.1 q1.2.2.1 q1.2.2.2.1 q1.2.2.2.2.1 q1.2.2.2.2.2 mlo mal mpr lak trc ntr))) (ov_up (6 + 2) (show _ < 19 by omega) (modL_Wset (by omega))) ?_
    have hv_b : isV (ov h b (modL b lane many items spare stat tape taped fk fp mat mst tok mval (va_up W 2 (f_copies (W 0) (W 2) 0 0)) past nac imgs kept q1.2.1 q1.2.2.1 q1.2.2.2.1 q1.2.2.2.2.1 q1.2.2.2.2.2 mlo mal mpr lak trc ntr)) b (modL b lane many items spare stat tape taped fk fp mat mst tok mval (va_up W 2 (f_copies (W 0) (W 2) 0 0)) past nac imgs kept q1.2.1 q1.2.2.1 q1.2.2.2.1 q1.2.2.2.2.1 q1.2.2.2.2.2 mlo mal mpr lak trc ntr) := ov_isV
    refine r_aload_n X 0 dX8_more_35 rfl ?_
    refine gf_X8_31 X dX8_more_36 (hv_b 0 _ rfl) rfl ?_
    refine r_iconst X (3 : Int32) dX8_more_39 (by decide) ?_
    refine r_iload_n X 1 dX8_more_40 rfl ?_
    refine r_iaddn X (a := 3) (b := k) dX8_more_41 ?_
    refine r_dup2 X dX8_more_42 rfl rfl ?_
    refine r_ialdn X (k0 := 3 + k) dX8_more_43 (hv_b (6 + 2) _ (modL_W (by omega))) (by omega) (by decide) ?_
    refine r_iconst X (1 : Int32) dX8_more_44 (by decide) ?_
    refine r_iadd X dX8_more_45 ?_
    refine r_iastn X (k0 := 3 + k) dX8_more_46 (hv_b (6 + 2) _ (modL_W (by omega))) (by omega) (by first | decide | omega) ?_
    refine SW.heq (h2 := (ov h b (modL b lane many items spare stat tape taped fk fp mat mst tok mval (va_up W 2 (upd (f_copies (W 0) (W 2) 0 0) (3 + k) (((f_copies (W 0) (W 2) 0 0) (3 + k)) + (1 : Int32)))) past nac imgs kept q1.2.1 q1.2.2.1 q1.2.2.2.1 q1.2.2.2.2.1 q1.2.2.2.2.2 mlo mal mpr lak trc ntr))) (ov_up (6 + 2) (show _ < 19 by omega) ((modL_Wset (by omega)).trans (by rw [bx_uu]; rfl))) ?_
    have hv_b : isV (ov h b (modL b lane many items spare stat tape taped fk fp mat mst tok mval (va_up W 2 (upd (f_copies (W 0) (W 2) 0 0) (3 + k) (((f_copies (W 0) (W 2) 0 0) (3 + k)) + (1 : Int32)))) past nac imgs kept q1.2.1 q1.2.2.1 q1.2.2.2.1 q1.2.2.2.2.1 q1.2.2.2.2.2 mlo mal mpr lak trc ntr)) b (modL b lane many items spare stat tape taped fk fp mat mst tok mval (va_up W 2 (upd (f_copies (W 0) (W 2) 0 0) (3 + k) (((f_copies (W 0) (W 2) 0 0) (3 + k)) + (1 : Int32)))) past nac imgs kept q1.2.1 q1.2.2.1 q1.2.2.2.1 q1.2.2.2.2.1 q1.2.2.2.2.2 mlo mal mpr lak trc ntr) := ov_isV
    refine r_aload_n X 0 dX8_more_47 rfl ?_
    refine r_aload_n X 0 dX8_more_48 rfl ?_
    refine gf_X8_31 X dX8_more_49 (hv_b 0 _ rfl) rfl ?_
    refine r_ldc X dX8_more_52 kk_X8_66 ?_
    refine cl_X8_230 X (by decide) dX8_more_54 (Nat.le_of_ble_eq_true rfl) (hv_b 0 _ rfl) (c_Model_bestCost  (by first | assumption | omega) (tr_at (tr_cp (by decide) (by omega) h0)) (by first | assumption | omega) (tr_at (tr_cp (by decide) (by omega) h1)) (by first | assumption | omega)) ?_
    obtain ⟨q2, eq2⟩ : ∃ q, q = f_Model_bestCost (va_up W 2 (upd (f_copies (W 0) (W 2) 0 0) (3 + k) (((f_copies (W 0) (W 2) 0 0) (3 + k)) + (1 : Int32)))) q1.2.1 q1.2.2.1 q1.2.2.2.1 q1.2.2.2.2.1 (-1000000 : Int32) 2 U Hh := ⟨_, rfl⟩
    rw [← eq2]
    rw [← eq2] at hf
    rw [lt_eq] at hf
    have hv_b : isV (ov h b (modL b lane many items spare stat tape taped fk fp mat mst tok mval (va_up W 2 (upd (f_copies (W 0) (W 2) 0 0) (3 + k) (((f_copies (W 0) (W 2) 0 0) (3 + k)) + (1 : Int32)))) past nac imgs kept q2.2.1 q2.2.2.1 q2.2.2.2.1 q2.2.2.2.2.1 q2.2.2.2.2.2 mlo mal mpr lak trc ntr)) b (modL b lane many items spare stat tape taped fk fp mat mst tok mval (va_up W 2 (upd (f_copies (W 0) (W 2) 0 0) (3 + k) (((f_copies (W 0) (W 2) 0 0) (3 + k)) + (1 : Int32)))) past nac imgs kept q2.2.1 q2.2.2.1 q2.2.2.2.1 q2.2.2.2.2.1 q2.2.2.2.2.2 mlo mal mpr lak trc ntr) := ov_isV
    refine r_istore_n [(0, .ref b), (1, .int (nI k)), (2, .int q1.1), (3, .int q2.1)] X dX8_more_57 rfl (by decide) rfl ?_
    refine r_iload_n X 2 dX8_more_58 rfl ?_
    refine r_ldc X dX8_more_59 kk_X8_66 ?_
    refine m_join (P := SW Z 78 [] [.int (if q1.1 = (-1000000 : Int32) then (-1000000 : Int32) else if q2.1 = (-1000000 : Int32) then (-1000000 : Int32) else q2.1 - q1.1)] (ov h b (modL b lane many items spare stat tape taped fk fp mat mst tok mval (va_up W 2 (upd (f_copies (W 0) (W 2) 0 0) (3 + k) (((f_copies (W 0) (W 2) 0 0) (3 + k)) + (1 : Int32)))) past nac imgs kept q2.2.1 q2.2.2.1 q2.2.2.2.1 q2.2.2.2.2.1 q2.2.2.2.2.2 mlo mal mpr lak trc ntr))) (fun K => ?_) ?_
    · refine r_icmp_eq X 70 dX8_more_61 rfl (fun c1 => ?_) (fun c1 => ?_)
      · skip
        refine r_ldc X dX8_more_70 kk_X8_66 ?_
        refine r_goto X 78 dX8_more_72 rfl ?_
        refine SW.pick [] [] rfl ?_
        try simp only [if_pos c1] at K ⊢
        exact K
      · skip
        refine r_iload_n X 3 dX8_more_64 rfl ?_
        refine r_ldc X dX8_more_65 kk_X8_66 ?_
        refine m_join (P := SW Z 78 [] [.int (if q2.1 = (-1000000 : Int32) then (-1000000 : Int32) else q2.1 - q1.1)] (ov h b (modL b lane many items spare stat tape taped fk fp mat mst tok mval (va_up W 2 (upd (f_copies (W 0) (W 2) 0 0) (3 + k) (((f_copies (W 0) (W 2) 0 0) (3 + k)) + (1 : Int32)))) past nac imgs kept q2.2.1 q2.2.2.1 q2.2.2.2.1 q2.2.2.2.2.1 q2.2.2.2.2.2 mlo mal mpr lak trc ntr))) (fun K => ?_) ?_
        · refine r_icmp_ne X 75 dX8_more_67 rfl (fun c2 => ?_) (fun c2 => ?_)
          · skip
            refine r_iload_n X 3 dX8_more_75 rfl ?_
            refine r_iload_n X 2 dX8_more_76 rfl ?_
            refine r_isub X dX8_more_77 ?_
            refine SW.pick [] [] rfl ?_
            try simp only [if_neg c2] at K ⊢
            exact K
          · skip
            refine r_ldc X dX8_more_70 kk_X8_66 ?_
            refine r_goto X 78 dX8_more_72 rfl ?_
            refine SW.pick [] [] rfl ?_
            try simp only [if_pos c2] at K ⊢
            exact K
        have hv_b : isV (ov h b (modL b lane many items spare stat tape taped fk fp mat mst tok mval (va_up W 2 (upd (f_copies (W 0) (W 2) 0 0) (3 + k) (((f_copies (W 0) (W 2) 0 0) (3 + k)) + (1 : Int32)))) past nac imgs kept q2.2.1 q2.2.2.1 q2.2.2.2.1 q2.2.2.2.2.1 q2.2.2.2.2.2 mlo mal mpr lak trc ntr)) b (modL b lane many items spare stat tape taped fk fp mat mst tok mval (va_up W 2 (upd (f_copies (W 0) (W 2) 0 0) (3 + k) (((f_copies (W 0) (W 2) 0 0) (3 + k)) + (1 : Int32)))) past nac imgs kept q2.2.1 q2.2.2.1 q2.2.2.2.1 q2.2.2.2.2.1 q2.2.2.2.2.2 mlo mal mpr lak trc ntr) := ov_isV
        try simp only [if_neg c1] at K ⊢
        exact K
    have hv_b : isV (ov h b (modL b lane many items spare stat tape taped fk fp mat mst tok mval (va_up W 2 (upd (f_copies (W 0) (W 2) 0 0) (3 + k) (((f_copies (W 0) (W 2) 0 0) (3 + k)) + (1 : Int32)))) past nac imgs kept q2.2.1 q2.2.2.1 q2.2.2.2.1 q2.2.2.2.2.1 q2.2.2.2.2.2 mlo mal mpr lak trc ntr)) b (modL b lane many items spare stat tape taped fk fp mat mst tok mval (va_up W 2 (upd (f_copies (W 0) (W 2) 0 0) (3 + k) (((f_copies (W 0) (W 2) 0 0) (3 + k)) + (1 : Int32)))) past nac imgs kept q2.2.1 q2.2.2.1 q2.2.2.2.1 q2.2.2.2.2.1 q2.2.2.2.2.2 mlo mal mpr lak trc ntr) := ov_isV
    try subst hf
    exact r_ireturn X Y dX8_more_78 rfl rfl
  · rw [if_pos cu] at hf
    refine r_ldc X dX8_more_8 kk_X8_80 ?_
    try subst hf
    exact r_ireturn X Y dX8_more_10 rfl rfl

def f_Model_wanted_L32s (W : Nat → Nat → Int32) (U : Nat) (Hh : Nat) (k32 : Nat) (x1 : Int32) (gvn : Nat → Int32) (costs : Nat → Int32) (lst : Nat → Int32) (sets : Nat → Int32) (bst : Int32) : Int32 × (Nat → Int32) × (Nat → Int32) × (Nat → Int32) × (Nat → Int32) × Int32 := (lt_ (f_Model_bestCost W gvn costs lst sets (nI k32) 0 U Hh) (fun q2 => (x1 ||| (if q2.1 = (-1000000 : Int32) then (1 : Int32) <<< ((nI k32) &&& 31) else (0 : Int32)), q2.2.1, q2.2.2.1, q2.2.2.2.1, q2.2.2.2.2.1, q2.2.2.2.2.2)))
def f_Model_wanted_L32 (W : Nat → Nat → Int32) (U : Nat) (Hh : Nat) (x1 : Int32) (gvn : Nat → Int32) (costs : Nat → Int32) (lst : Nat → Int32) (sets : Nat → Int32) (bst : Int32) : Nat → Int32 × (Nat → Int32) × (Nat → Int32) × (Nat → Int32) × (Nat → Int32) × Int32
  | 0 => (x1, gvn, costs, lst, sets, bst)
  | k32 + 1 => f_Model_wanted_L32s W U Hh k32 ((f_Model_wanted_L32 W U Hh x1 gvn costs lst sets bst k32).1) ((f_Model_wanted_L32 W U Hh x1 gvn costs lst sets bst k32).2.1) ((f_Model_wanted_L32 W U Hh x1 gvn costs lst sets bst k32).2.2.1) ((f_Model_wanted_L32 W U Hh x1 gvn costs lst sets bst k32).2.2.2.1) ((f_Model_wanted_L32 W U Hh x1 gvn costs lst sets bst k32).2.2.2.2.1) ((f_Model_wanted_L32 W U Hh x1 gvn costs lst sets bst k32).2.2.2.2.2)
def f_Model_wanted (W : Nat → Nat → Int32) (gvn : Nat → Int32) (costs : Nat → Int32) (lst : Nat → Int32) (sets : Nat → Int32) (bst : Int32) (U : Nat) (Hh : Nat) : Int32 × (Nat → Int32) × (Nat → Int32) × (Nat → Int32) × (Nat → Int32) × Int32 := (if (f_Model_isDay W) = (0 : Int32) then ((-1000002 : Int32), gvn, costs, lst, sets, bst) else (lt_ (f_Model_bestCost W gvn costs lst sets (-1000000 : Int32) 0 U Hh) (fun q1 => (if q1.1 = (-1000000 : Int32) then ((-1000000 : Int32), q1.2.1, q1.2.2.1, q1.2.2.2.1, q1.2.2.2.2.1, q1.2.2.2.2.2) else (lt_ (f_Model_wanted_L32 W U Hh (0 : Int32) q1.2.1 q1.2.2.1 q1.2.2.2.1 q1.2.2.2.2.1 q1.2.2.2.2.2 U) (fun q4 => (q4.1, q4.2.1, q4.2.2.1, q4.2.2.2.1, q4.2.2.2.2.1, q4.2.2.2.2.2)))))))
set_option maxRecDepth 20000 in
set_option maxHeartbeats 4000000 in
theorem c_Model_wanted {G : mG} {h : mHp} {b : Nat} {lane : Nat → Int32} {many : Nat → Nat} {items : Nat → Int32} {spare : Nat → Int32} {stat : Int32} {tape : Nat → Int32} {taped : Nat} {fk : Int32} {fp : Int32} {mat : Nat} {mst : Nat} {tok : Int32} {mval : Int32} {W : Nat → Nat → Int32} {past : Nat → Int32} {nac : Nat} {imgs : Nat → Int32} {kept : Nat → Int32} {gvn : Nat → Int32} {costs : Nat → Int32} {lst : Nat → Int32} {sets : Nat → Int32} {bst : Int32} {mlo : Int64} {mal : Int32} {mpr : Nat → Int64} {lak : Nat → Int64} {trc : Nat → Int32} {ntr : Nat} {U : Nat} {Hh : Nat}   (h0 : W 0 0 = nI U) (hU : U ≤ 4) (h1 : W 0 1 = nI Hh) (hH : Hh ≤ 6) : Ret G 7 mX8_wanted [.ref b] (ov h b (modL b lane many items spare stat tape taped fk fp mat mst tok mval W past nac imgs kept gvn costs lst sets bst mlo mal mpr lak trc ntr)) (some (.int (f_Model_wanted W gvn costs lst sets bst U Hh).1)) (ov h b (modL b lane many items spare stat tape taped fk fp mat mst tok mval W past nac imgs kept (f_Model_wanted W gvn costs lst sets bst U Hh).2.1 (f_Model_wanted W gvn costs lst sets bst U Hh).2.2.1 (f_Model_wanted W gvn costs lst sets bst U Hh).2.2.2.1 (f_Model_wanted W gvn costs lst sets bst U Hh).2.2.2.2.1 (f_Model_wanted W gvn costs lst sets bst U Hh).2.2.2.2.2 mlo mal mpr lak trc ntr)) := by
  generalize hf : f_Model_wanted W gvn costs lst sets bst U Hh = R
  unfold f_Model_wanted at hf
  refine Ret.of [(0, .ref b)] (by decide) (Nat.le_of_ble_eq_true rfl) rfl ?_
  rintro Z rfl X Y
  have hv_b : isV (ov h b (modL b lane many items spare stat tape taped fk fp mat mst tok mval W past nac imgs kept gvn costs lst sets bst mlo mal mpr lak trc ntr)) b (modL b lane many items spare stat tape taped fk fp mat mst tok mval W past nac imgs kept gvn costs lst sets bst mlo mal mpr lak trc ntr) := ov_isV
  refine r_aload_n X 0 dX8_wanted_0 rfl ?_
  refine cl_X8_227 X (by decide) dX8_wanted_1 (Nat.le_of_ble_eq_true rfl) (hv_b 0 _ rfl) (c_Model_isDay hv_b ) ?_
  refine r_if_ne X 10 dX8_wanted_4 rfl (fun c1 => ?_) (fun c1 => ?_)
  · rw [if_neg c1] at hf
    refine r_aload_n X 0 dX8_wanted_10 rfl ?_
    refine r_aload_n X 0 dX8_wanted_11 rfl ?_
    refine gf_X8_25 X dX8_wanted_12 (hv_b 0 _ rfl) rfl ?_
    refine r_ldc X dX8_wanted_15 kk_X8_66 ?_
    refine cl_X8_230 X (by decide) dX8_wanted_17 (Nat.le_of_ble_eq_true rfl) (hv_b 0 _ rfl) (c_Model_bestCost  (by first | assumption | omega) (by first | assumption | omega) (by first | assumption | omega) (by first | assumption | omega) (by first | assumption | omega)) ?_
    obtain ⟨q1, eq1⟩ : ∃ q, q = f_Model_bestCost W gvn costs lst sets (-1000000 : Int32) 0 U Hh := ⟨_, rfl⟩
    rw [← eq1]
    rw [← eq1] at hf
    rw [lt_eq] at hf
    have hv_b : isV (ov h b (modL b lane many items spare stat tape taped fk fp mat mst tok mval W past nac imgs kept q1.2.1 q1.2.2.1 q1.2.2.2.1 q1.2.2.2.2.1 q1.2.2.2.2.2 mlo mal mpr lak trc ntr)) b (modL b lane many items spare stat tape taped fk fp mat mst tok mval W past nac imgs kept q1.2.1 q1.2.2.1 q1.2.2.2.1 q1.2.2.2.2.1 q1.2.2.2.2.2 mlo mal mpr lak trc ntr) := ov_isV
    refine r_ldc X dX8_wanted_20 kk_X8_66 ?_
    refine r_icmp_ne X 28 dX8_wanted_22 rfl (fun c2 => ?_) (fun c2 => ?_)
    · rw [if_neg c2] at hf
      refine r_iconst X (0 : Int32) dX8_wanted_28 (by decide) ?_
      refine r_istore_n [(0, .ref b), (1, .int (0 : Int32))] X dX8_wanted_29 rfl (by decide) rfl ?_
      refine r_iconst X (0 : Int32) dX8_wanted_30 (by decide) ?_
      refine r_istore_n [(0, .ref b), (1, .int (0 : Int32)), (2, .int (0 : Int32))] X dX8_wanted_31 rfl (by decide) rfl ?_
      refine loop_up (P := fun k4 => SW Z 32 [(0, .ref b), (1, .int ((f_Model_wanted_L32 W U Hh (0 : Int32) q1.2.1 q1.2.2.1 q1.2.2.2.1 q1.2.2.2.2.1 q1.2.2.2.2.2 k4).1)), (2, .int (nI k4))] [] (ov h b (modL b lane many items spare stat tape taped fk fp mat mst tok mval W past nac imgs kept ((f_Model_wanted_L32 W U Hh (0 : Int32) q1.2.1 q1.2.2.1 q1.2.2.2.1 q1.2.2.2.2.1 q1.2.2.2.2.2 k4).2.1) ((f_Model_wanted_L32 W U Hh (0 : Int32) q1.2.1 q1.2.2.1 q1.2.2.2.1 q1.2.2.2.2.1 q1.2.2.2.2.2 k4).2.2.1) ((f_Model_wanted_L32 W U Hh (0 : Int32) q1.2.1 q1.2.2.1 q1.2.2.2.1 q1.2.2.2.2.1 q1.2.2.2.2.2 k4).2.2.2.1) ((f_Model_wanted_L32 W U Hh (0 : Int32) q1.2.1 q1.2.2.1 q1.2.2.2.1 q1.2.2.2.2.1 q1.2.2.2.2.2 k4).2.2.2.2.1) ((f_Model_wanted_L32 W U Hh (0 : Int32) q1.2.1 q1.2.2.1 q1.2.2.2.1 q1.2.2.2.2.1 q1.2.2.2.2.2 k4).2.2.2.2.2) mlo mal mpr lak trc ntr))) U ?_ ?_ 0 (Nat.zero_le _)
      rotate_left
      · intro k4 hk4 ih
        have hv_b : isV (ov h b (modL b lane many items spare stat tape taped fk fp mat mst tok mval W past nac imgs kept ((f_Model_wanted_L32 W U Hh (0 : Int32) q1.2.1 q1.2.2.1 q1.2.2.2.1 q1.2.2.2.2.1 q1.2.2.2.2.2 k4).2.1) ((f_Model_wanted_L32 W U Hh (0 : Int32) q1.2.1 q1.2.2.1 q1.2.2.2.1 q1.2.2.2.2.1 q1.2.2.2.2.2 k4).2.2.1) ((f_Model_wanted_L32 W U Hh (0 : Int32) q1.2.1 q1.2.2.1 q1.2.2.2.1 q1.2.2.2.2.1 q1.2.2.2.2.2 k4).2.2.2.1) ((f_Model_wanted_L32 W U Hh (0 : Int32) q1.2.1 q1.2.2.1 q1.2.2.2.1 q1.2.2.2.2.1 q1.2.2.2.2.2 k4).2.2.2.2.1) ((f_Model_wanted_L32 W U Hh (0 : Int32) q1.2.1 q1.2.2.1 q1.2.2.2.1 q1.2.2.2.2.1 q1.2.2.2.2.2 k4).2.2.2.2.2) mlo mal mpr lak trc ntr)) b (modL b lane many items spare stat tape taped fk fp mat mst tok mval W past nac imgs kept ((f_Model_wanted_L32 W U Hh (0 : Int32) q1.2.1 q1.2.2.1 q1.2.2.2.1 q1.2.2.2.2.1 q1.2.2.2.2.2 k4).2.1) ((f_Model_wanted_L32 W U Hh (0 : Int32) q1.2.1 q1.2.2.1 q1.2.2.2.1 q1.2.2.2.2.1 q1.2.2.2.2.2 k4).2.2.1) ((f_Model_wanted_L32 W U Hh (0 : Int32) q1.2.1 q1.2.2.1 q1.2.2.2.1 q1.2.2.2.2.1 q1.2.2.2.2.2 k4).2.2.2.1) ((f_Model_wanted_L32 W U Hh (0 : Int32) q1.2.1 q1.2.2.1 q1.2.2.2.1 q1.2.2.2.2.1 q1.2.2.2.2.2 k4).2.2.2.2.1) ((f_Model_wanted_L32 W U Hh (0 : Int32) q1.2.1 q1.2.2.1 q1.2.2.2.1 q1.2.2.2.2.1 q1.2.2.2.2.2 k4).2.2.2.2.2) mlo mal mpr lak trc ntr) := ov_isV
        refine r_iload_n X 2 dX8_wanted_32 rfl ?_
        refine r_aload_n X 0 dX8_wanted_33 rfl ?_
        refine gf_X8_25 X dX8_wanted_34 (hv_b 0 _ rfl) rfl ?_
        refine r_iconst X (0 : Int32) dX8_wanted_37 (by decide) ?_
        refine r_ialdv X (v := nI U) (k0 := 0) dX8_wanted_38 (hv_b (6 + 0) _ (modL_W (by omega))) (by omega) (by decide) h0 ?_
        refine r_icmp_ge X 72 dX8_wanted_39 rfl (fun z => absurd (nI_lt (a := k4) (b := U) (by omega) (by omega)) z) (fun _ => ?_)
        refine r_iload_n X 1 dX8_wanted_42 rfl ?_
        refine r_aload_n X 0 dX8_wanted_43 rfl ?_
        refine r_aload_n X 0 dX8_wanted_44 rfl ?_
        refine gf_X8_25 X dX8_wanted_45 (hv_b 0 _ rfl) rfl ?_
        refine r_iload_n X 2 dX8_wanted_48 rfl ?_
        refine cl_X8_230 X (by decide) dX8_wanted_49 (Nat.le_of_ble_eq_true rfl) (hv_b 0 _ rfl) (c_Model_bestCost  (by first | assumption | omega) (by first | assumption | omega) (by first | assumption | omega) (by first | assumption | omega) (by first | assumption | omega)) ?_
        obtain ⟨q3, eq3⟩ : ∃ q, q = f_Model_bestCost W ((f_Model_wanted_L32 W U Hh (0 : Int32) q1.2.1 q1.2.2.1 q1.2.2.2.1 q1.2.2.2.2.1 q1.2.2.2.2.2 k4).2.1) ((f_Model_wanted_L32 W U Hh (0 : Int32) q1.2.1 q1.2.2.1 q1.2.2.2.1 q1.2.2.2.2.1 q1.2.2.2.2.2 k4).2.2.1) ((f_Model_wanted_L32 W U Hh (0 : Int32) q1.2.1 q1.2.2.1 q1.2.2.2.1 q1.2.2.2.2.1 q1.2.2.2.2.2 k4).2.2.2.1) ((f_Model_wanted_L32 W U Hh (0 : Int32) q1.2.1 q1.2.2.1 q1.2.2.2.1 q1.2.2.2.2.1 q1.2.2.2.2.2 k4).2.2.2.2.1) (nI k4) 0 U Hh := ⟨_, rfl⟩
        rw [← eq3]
        have hv_b : isV (ov h b (modL b lane many items spare stat tape taped fk fp mat mst tok mval W past nac imgs kept q3.2.1 q3.2.2.1 q3.2.2.2.1 q3.2.2.2.2.1 q3.2.2.2.2.2 mlo mal mpr lak trc ntr)) b (modL b lane many items spare stat tape taped fk fp mat mst tok mval W past nac imgs kept q3.2.1 q3.2.2.1 q3.2.2.2.1 q3.2.2.2.2.1 q3.2.2.2.2.2 mlo mal mpr lak trc ntr) := ov_isV
        refine r_ldc X dX8_wanted_52 kk_X8_66 ?_
        refine m_join (P := SW Z 64 [(0, .ref b), (2, .int (nI k4))] [.int (if q3.1 = (-1000000 : Int32) then (1 : Int32) <<< ((nI k4) &&& 31) else (0 : Int32)), .int ((f_Model_wanted_L32 W U Hh (0 : Int32) q1.2.1 q1.2.2.1 q1.2.2.2.1 q1.2.2.2.2.1 q1.2.2.2.2.2 k4).1)] (ov h b (modL b lane many items spare stat tape taped fk fp mat mst tok mval W past nac imgs kept q3.2.1 q3.2.2.1 q3.2.2.2.1 q3.2.2.2.2.1 q3.2.2.2.2.2 mlo mal mpr lak trc ntr))) (fun K => ?_) ?_
        · refine r_icmp_ne X 63 dX8_wanted_54 rfl (fun c5 => ?_) (fun c5 => ?_)
          · skip
            refine r_iconst X (0 : Int32) dX8_wanted_63 (by decide) ?_
            refine SW.pick [0, 2] [(0, .ref b), (2, .int (nI k4))] rfl ?_
            try simp only [if_neg c5] at K ⊢
            exact K
          · skip
            refine r_iconst X (1 : Int32) dX8_wanted_57 (by decide) ?_
            refine r_iload_n X 2 dX8_wanted_58 rfl ?_
            refine r_ishl X dX8_wanted_59 ?_
            refine r_goto X 64 dX8_wanted_60 rfl ?_
            refine SW.pick [0, 2] [(0, .ref b), (2, .int (nI k4))] rfl ?_
            try simp only [if_pos c5] at K ⊢
            exact K
        have hv_b : isV (ov h b (modL b lane many items spare stat tape taped fk fp mat mst tok mval W past nac imgs kept q3.2.1 q3.2.2.1 q3.2.2.2.1 q3.2.2.2.2.1 q3.2.2.2.2.2 mlo mal mpr lak trc ntr)) b (modL b lane many items spare stat tape taped fk fp mat mst tok mval W past nac imgs kept q3.2.1 q3.2.2.1 q3.2.2.2.1 q3.2.2.2.2.1 q3.2.2.2.2.2 mlo mal mpr lak trc ntr) := ov_isV
        refine r_ior X dX8_wanted_64 ?_
        refine r_istore_n [(0, .ref b), (1, .int (((f_Model_wanted_L32 W U Hh (0 : Int32) q1.2.1 q1.2.2.1 q1.2.2.2.1 q1.2.2.2.2.1 q1.2.2.2.2.2 k4).1) ||| (if q3.1 = (-1000000 : Int32) then (1 : Int32) <<< ((nI k4) &&& 31) else (0 : Int32)))), (2, .int (nI k4))] X dX8_wanted_65 rfl (by decide) rfl ?_
        refine r_iinc [(0, .ref b), (1, .int (((f_Model_wanted_L32 W U Hh (0 : Int32) q1.2.1 q1.2.2.1 q1.2.2.2.1 q1.2.2.2.2.1 q1.2.2.2.2.2 k4).1) ||| (if q3.1 = (-1000000 : Int32) then (1 : Int32) <<< ((nI k4) &&& 31) else (0 : Int32)))), (2, .int (nI (k4 + 1)))] X (nI (k4 + 1)) 2 dX8_wanted_66 rfl (nI_succ _).symm (by decide) rfl ?_
        refine r_goto X 32 dX8_wanted_69 rfl ?_
        subst eq3
        exact ih
      obtain ⟨q4, eq4⟩ : ∃ q, q = f_Model_wanted_L32 W U Hh (0 : Int32) q1.2.1 q1.2.2.1 q1.2.2.2.1 q1.2.2.2.2.1 q1.2.2.2.2.2 U := ⟨_, rfl⟩
      rw [← eq4]
      rw [← eq4] at hf
      rw [lt_eq] at hf
      have hv_b : isV (ov h b (modL b lane many items spare stat tape taped fk fp mat mst tok mval W past nac imgs kept q4.2.1 q4.2.2.1 q4.2.2.2.1 q4.2.2.2.2.1 q4.2.2.2.2.2 mlo mal mpr lak trc ntr)) b (modL b lane many items spare stat tape taped fk fp mat mst tok mval W past nac imgs kept q4.2.1 q4.2.2.1 q4.2.2.2.1 q4.2.2.2.2.1 q4.2.2.2.2.2 mlo mal mpr lak trc ntr) := ov_isV
      refine r_iload_n X 2 dX8_wanted_32 rfl ?_
      refine r_aload_n X 0 dX8_wanted_33 rfl ?_
      refine gf_X8_25 X dX8_wanted_34 (hv_b 0 _ rfl) rfl ?_
      refine r_iconst X (0 : Int32) dX8_wanted_37 (by decide) ?_
      refine r_ialdv X (v := nI U) (k0 := 0) dX8_wanted_38 (hv_b (6 + 0) _ (modL_W (by omega))) (by omega) (by decide) h0 ?_
      refine r_icmp_ge X 72 dX8_wanted_39 rfl (fun _ => ?_) (fun z => absurd z (nI_nlt (a := U) (b := U) (by omega) (by omega)))
      refine r_iload_n X 1 dX8_wanted_72 rfl ?_
      try subst hf
      exact r_ireturn X Y dX8_wanted_73 rfl rfl
    · rw [if_pos c2] at hf
      refine r_ldc X dX8_wanted_25 kk_X8_66 ?_
      try subst hf
      exact r_ireturn X Y dX8_wanted_27 rfl rfl
  · rw [if_pos c1] at hf
    refine r_ldc X dX8_wanted_7 kk_X8_223 ?_
    try subst hf
    exact r_ireturn X Y dX8_wanted_9 rfl rfl

theorem who_x {wh x : Int32} {U H : Nat} (hU : U ≤ 4) (hH : H ≤ 6) (h : ¬ (if f_Model_in wh (0 : Int32) (3 : Int32) = (0 : Int32) then (0 : Int32) else if wh < (2 : Int32) then (if f_Model_isHour x H = (0 : Int32) then (0 : Int32) else (1 : Int32)) else (if f_Model_isUnit x U = (0 : Int32) then (0 : Int32) else (1 : Int32))) = (0 : Int32)) : ∃ k, (k < 6 ∧ (¬ wh < 2 → k < 4)) ∧ x = nI k := by
  by_cases c1 : f_Model_in wh (0 : Int32) (3 : Int32) = (0 : Int32)
  · rw [if_pos c1] at h; exact absurd rfl h
  · rw [if_neg c1] at h
    by_cases c2 : wh < (2 : Int32)
    · rw [if_pos c2] at h
      by_cases c3 : f_Model_isHour x H = (0 : Int32)
      · rw [if_pos c3] at h; exact absurd rfl h
      · obtain ⟨k, hk, e⟩ := isHour_nat hH c3
        exact ⟨k, ⟨by omega, fun q => absurd c2 q⟩, e⟩
    · rw [if_neg c2] at h
      by_cases c3 : f_Model_isUnit x U = (0 : Int32)
      · rw [if_pos c3] at h; exact absurd rfl h
      · obtain ⟨k, hk, e⟩ := isUnit_nat hU c3
        exact ⟨k, ⟨by omega, fun _ => by omega⟩, e⟩
theorem who_pl {wh : Int32} {k : Nat} (hk : k < 6 ∧ (¬ wh < 2 → k < 4)) : 3 ≤ (if wh < (2 : Int32) then 3 + k else (if wh = (2 : Int32) then 9 + (8 * k) else (9 + (8 * k)) + 3)) ∧ (if wh < (2 : Int32) then 3 + k else (if wh = (2 : Int32) then 9 + (8 * k) else (9 + (8 * k)) + 3)) < 41 := by
  by_cases c : wh < (2 : Int32)
  · rw [if_pos c]; omega
  · rw [if_neg c]
    have := hk.2 c
    by_cases d : wh = (2 : Int32)
    · rw [if_pos d]; omega
    · rw [if_neg d]; omega
theorem ne_of_3 {a b : Nat} (ha : a < 3) (hb : 3 ≤ b) : a ≠ b := by omega
theorem who_its {wh : Int32} : ((if wh < (2 : Int32) then (60 : Int32) else if wh = (2 : Int32) then (5 : Int32) else (9 : Int32)) + 1).toNatClampNeg ≤ 61 := by
  (repeat' split) <;> decide
theorem its_nat {wh y : Int32} (h : (y + 1).toNatClampNeg ≤ 61) (c : ¬ y < (if wh < (2 : Int32) then (0 : Int32) else (1 : Int32))) (hy : y < 100) : ∃ n : Nat, n ≤ 60 ∧ y = nI n := by
  have h0 : ¬ y < 0 := fun q => c (by
    split
    · exact q
    · rw [Int32.lt_iff_toInt_lt] at q ⊢
      have e0 : (0 : Int32).toInt = 0 := by decide
      have e1 : (1 : Int32).toInt = 1 := by decide
      omega)
  obtain ⟨n, hn, rfl⟩ := nI_of h0
  refine ⟨n, ?_, rfl⟩
  have := nI_ltX (b := 100) hy hn (by omega)
  rw [nI_1, nI_clamp (by omega)] at h
  omega

theorem who_its2 {wh : Int32} : (if wh < (2 : Int32) then (60 : Int32) else if wh = (2 : Int32) then (5 : Int32) else (9 : Int32)) < 100 := by
  (repeat' split) <;> decide
theorem its_back {y : Int32} {n : Nat} (e : y = nI n) (h : n ≤ 60) : (y + (-1 : Int32) + 1).toNatClampNeg ≤ 61 ∧ y + (-1 : Int32) < 100 ∧ (y + (-1 : Int32) + 1).toNatClampNeg < (y + 1).toNatClampNeg := by
  subst e
  have e1 : nI n + (-1 : Int32) + 1 = nI n := by
    rw [Int32.add_assoc, show (-1 : Int32) + 1 = 0 by decide, Int32.add_zero]
  rw [e1, nI_1, nI_clamp (by omega), nI_clamp (by omega)]
  refine ⟨by omega, ?_, by omega⟩
  rcases Nat.eq_zero_or_pos n with z | z
  · subst z; decide
  · obtain ⟨m, rfl⟩ : ∃ m, n = m + 1 := ⟨n - 1, by omega⟩
    rw [pk_m1]
    exact nI_lt (b := 100) (by omega) (by omega)

def f_Model_layBest_L51s (sets : Nat → Int32) (n2 : Nat) (k51 : Nat) (x3 : Int32) : Int32 := x3 ||| (if (f_Model_has (sets k51) (nI n2)) = (0 : Int32) then (0 : Int32) else (1 : Int32) <<< ((nI k51) &&& 31))
def f_Model_layBest_L51 (sets : Nat → Int32) (n2 : Nat) (x3 : Int32) : Nat → Int32
  | 0 => x3
  | k51 + 1 => f_Model_layBest_L51s sets n2 k51 (f_Model_layBest_L51 sets n2 x3 k51)
def f_Model_layBest_L36s (sets : Nat → Int32) (Hh : Nat) (k36 : Nat) (W : Nat → Nat → Int32) : (Nat → Nat → Int32) := va_up W 0 (upd (W 0) ((9 + (8 * k36)) + 7) (f_Model_layBest_L51 sets k36 (0 : Int32) Hh))
def f_Model_layBest_L36 (sets : Nat → Int32) (Hh : Nat) (W : Nat → Nat → Int32) : Nat → (Nat → Nat → Int32)
  | 0 => W
  | k36 + 1 => f_Model_layBest_L36s sets Hh k36 (f_Model_layBest_L36 sets Hh W k36)
theorem lb_small {sets : Nat → Int32} {Hh : Nat} {W : Nat → Nat → Int32} {j : Nat} (hj : j < 9) : ∀ k, f_Model_layBest_L36 sets Hh W k 0 j = W 0 j := by
  intro k
  induction k with
  | zero => rfl
  | succ k ih =>
    show va_up (f_Model_layBest_L36 sets Hh W k) 0 (upd (f_Model_layBest_L36 sets Hh W k 0) ((9 + (8 * k)) + 7) (f_Model_layBest_L51 sets k (0 : Int32) Hh)) 0 j = _
    rw [vu_self, pk_un (by omega)]
    exact ih
def f_Model_layBest (W : Nat → Nat → Int32) (past : Nat → Int32) (nac : Nat) (gvn : Nat → Int32) (costs : Nat → Int32) (lst : Nat → Int32) (sets : Nat → Int32) (bst : Int32) (U : Nat) (Hh : Nat) : Int32 × (Nat → Nat → Int32) × (Nat → Int32) × Nat × (Nat → Int32) × (Nat → Int32) × (Nat → Int32) × (Nat → Int32) × Int32 := (if (f_Model_isDay W) = (0 : Int32) then ((-1000002 : Int32), W, past, nac, gvn, costs, lst, sets, bst) else (lt_ (f_Model_bestCost W gvn costs lst sets (-1000000 : Int32) 0 U Hh) (fun q1 => (if q1.1 = (-1000000 : Int32) then ((-1000000 : Int32), W, past, nac, q1.2.1, q1.2.2.1, q1.2.2.2.1, q1.2.2.2.2.1, q1.2.2.2.2.2) else (lt_ (f_Model_notes W past nac) (fun q2 => (q1.1, (f_Model_layBest_L36 q1.2.2.2.2.1 Hh W U), q2.1, q2.2, q1.2.1, q1.2.2.1, q1.2.2.2.1, q1.2.2.2.2.1, q1.2.2.2.2.2)))))))
set_option maxRecDepth 20000 in
set_option maxHeartbeats 4000000 in
theorem c_Model_layBest {G : mG} {h : mHp} {b : Nat} {lane : Nat → Int32} {many : Nat → Nat} {items : Nat → Int32} {spare : Nat → Int32} {stat : Int32} {tape : Nat → Int32} {taped : Nat} {fk : Int32} {fp : Int32} {mat : Nat} {mst : Nat} {tok : Int32} {mval : Int32} {W : Nat → Nat → Int32} {past : Nat → Int32} {nac : Nat} {imgs : Nat → Int32} {kept : Nat → Int32} {gvn : Nat → Int32} {costs : Nat → Int32} {lst : Nat → Int32} {sets : Nat → Int32} {bst : Int32} {mlo : Int64} {mal : Int32} {mpr : Nat → Int64} {lak : Nat → Int64} {trc : Nat → Int32} {ntr : Nat} {U : Nat} {Hh : Nat}   (h0 : W 0 0 = nI U) (hU : U ≤ 4) (h1 : W 0 1 = nI Hh) (hH : Hh ≤ 6) (hac : nac ≤ 16) : Ret G 7 mX8_layBest [.ref b] (ov h b (modL b lane many items spare stat tape taped fk fp mat mst tok mval W past nac imgs kept gvn costs lst sets bst mlo mal mpr lak trc ntr)) (some (.int (f_Model_layBest W past nac gvn costs lst sets bst U Hh).1)) (ov h b (modL b lane many items spare stat tape taped fk fp mat mst tok mval (f_Model_layBest W past nac gvn costs lst sets bst U Hh).2.1 (f_Model_layBest W past nac gvn costs lst sets bst U Hh).2.2.1 (f_Model_layBest W past nac gvn costs lst sets bst U Hh).2.2.2.1 imgs kept (f_Model_layBest W past nac gvn costs lst sets bst U Hh).2.2.2.2.1 (f_Model_layBest W past nac gvn costs lst sets bst U Hh).2.2.2.2.2.1 (f_Model_layBest W past nac gvn costs lst sets bst U Hh).2.2.2.2.2.2.1 (f_Model_layBest W past nac gvn costs lst sets bst U Hh).2.2.2.2.2.2.2.1 (f_Model_layBest W past nac gvn costs lst sets bst U Hh).2.2.2.2.2.2.2.2 mlo mal mpr lak trc ntr)) := by
  generalize hf : f_Model_layBest W past nac gvn costs lst sets bst U Hh = R
  unfold f_Model_layBest at hf
  refine Ret.of [(0, .ref b)] (by decide) (Nat.le_of_ble_eq_true rfl) rfl ?_
  rintro Z rfl X Y
  have hv_b : isV (ov h b (modL b lane many items spare stat tape taped fk fp mat mst tok mval W past nac imgs kept gvn costs lst sets bst mlo mal mpr lak trc ntr)) b (modL b lane many items spare stat tape taped fk fp mat mst tok mval W past nac imgs kept gvn costs lst sets bst mlo mal mpr lak trc ntr) := ov_isV
  refine r_aload_n X 0 dX8_layBest_0 rfl ?_
  refine cl_X8_227 X (by decide) dX8_layBest_1 (Nat.le_of_ble_eq_true rfl) (hv_b 0 _ rfl) (c_Model_isDay hv_b ) ?_
  refine r_if_ne X 10 dX8_layBest_4 rfl (fun c1 => ?_) (fun c1 => ?_)
  · rw [if_neg c1] at hf
    refine r_aload_n X 0 dX8_layBest_10 rfl ?_
    refine r_aload_n X 0 dX8_layBest_11 rfl ?_
    refine gf_X8_25 X dX8_layBest_12 (hv_b 0 _ rfl) rfl ?_
    refine r_ldc X dX8_layBest_15 kk_X8_66 ?_
    refine cl_X8_230 X (by decide) dX8_layBest_17 (Nat.le_of_ble_eq_true rfl) (hv_b 0 _ rfl) (c_Model_bestCost  (by first | assumption | omega) (by first | assumption | omega) (by first | assumption | omega) (by first | assumption | omega) (by first | assumption | omega)) ?_
    obtain ⟨q1, eq1⟩ : ∃ q, q = f_Model_bestCost W gvn costs lst sets (-1000000 : Int32) 0 U Hh := ⟨_, rfl⟩
    rw [← eq1]
    rw [← eq1] at hf
    rw [lt_eq] at hf
    have hv_b : isV (ov h b (modL b lane many items spare stat tape taped fk fp mat mst tok mval W past nac imgs kept q1.2.1 q1.2.2.1 q1.2.2.2.1 q1.2.2.2.2.1 q1.2.2.2.2.2 mlo mal mpr lak trc ntr)) b (modL b lane many items spare stat tape taped fk fp mat mst tok mval W past nac imgs kept q1.2.1 q1.2.2.1 q1.2.2.2.1 q1.2.2.2.2.1 q1.2.2.2.2.2 mlo mal mpr lak trc ntr) := ov_isV
    refine r_istore_n [(0, .ref b), (1, .int q1.1)] X dX8_layBest_20 rfl (by decide) rfl ?_
    refine r_iload_n X 1 dX8_layBest_21 rfl ?_
    refine r_ldc X dX8_layBest_22 kk_X8_66 ?_
    refine r_icmp_ne X 30 dX8_layBest_24 rfl (fun c2 => ?_) (fun c2 => ?_)
    · rw [if_neg c2] at hf
      refine r_aload_n X 0 dX8_layBest_30 rfl ?_
      refine cl_X8_224 X (by decide) dX8_layBest_31 (Nat.le_of_ble_eq_true rfl) (hv_b 0 _ rfl) (c_Model_notes  (by first | assumption | omega)) ?_
      obtain ⟨q2, eq2⟩ : ∃ q, q = f_Model_notes W past nac := ⟨_, rfl⟩
      rw [← eq2]
      rw [← eq2] at hf
      rw [lt_eq] at hf
      have hv_b : isV (ov h b (modL b lane many items spare stat tape taped fk fp mat mst tok mval W q2.1 q2.2 imgs kept q1.2.1 q1.2.2.1 q1.2.2.2.1 q1.2.2.2.2.1 q1.2.2.2.2.2 mlo mal mpr lak trc ntr)) b (modL b lane many items spare stat tape taped fk fp mat mst tok mval W q2.1 q2.2 imgs kept q1.2.1 q1.2.2.1 q1.2.2.2.1 q1.2.2.2.2.1 q1.2.2.2.2.2 mlo mal mpr lak trc ntr) := ov_isV
      refine r_iconst X (0 : Int32) dX8_layBest_34 (by decide) ?_
      refine r_istore_n [(0, .ref b), (1, .int q1.1), (2, .int (0 : Int32))] X dX8_layBest_35 rfl (by decide) rfl ?_
      refine loop_up (P := fun k6 => SW Z 36 [(0, .ref b), (1, .int q1.1), (2, .int (nI k6))] [] (ov h b (modL b lane many items spare stat tape taped fk fp mat mst tok mval (f_Model_layBest_L36 q1.2.2.2.2.1 Hh W k6) q2.1 q2.2 imgs kept q1.2.1 q1.2.2.1 q1.2.2.2.1 q1.2.2.2.2.1 q1.2.2.2.2.2 mlo mal mpr lak trc ntr))) U ?_ ?_ 0 (Nat.zero_le _)
      rotate_left
      · intro k6 hk6 ih
        have hv_b : isV (ov h b (modL b lane many items spare stat tape taped fk fp mat mst tok mval (f_Model_layBest_L36 q1.2.2.2.2.1 Hh W k6) q2.1 q2.2 imgs kept q1.2.1 q1.2.2.1 q1.2.2.2.1 q1.2.2.2.2.1 q1.2.2.2.2.2 mlo mal mpr lak trc ntr)) b (modL b lane many items spare stat tape taped fk fp mat mst tok mval (f_Model_layBest_L36 q1.2.2.2.2.1 Hh W k6) q2.1 q2.2 imgs kept q1.2.1 q1.2.2.1 q1.2.2.2.1 q1.2.2.2.2.1 q1.2.2.2.2.2 mlo mal mpr lak trc ntr) := ov_isV
        refine r_iload_n X 2 dX8_layBest_36 rfl ?_
        refine r_aload_n X 0 dX8_layBest_37 rfl ?_
        refine gf_X8_25 X dX8_layBest_38 (hv_b 0 _ rfl) rfl ?_
        refine r_iconst X (0 : Int32) dX8_layBest_41 (by decide) ?_
        refine r_ialdv X (v := nI U) (k0 := 0) dX8_layBest_42 (hv_b (6 + 0) _ (modL_W (by omega))) (by omega) (by decide) ((lb_small (by decide) _).trans h0) ?_
        refine r_icmp_ge X 115 dX8_layBest_43 rfl (fun z => absurd (nI_lt (a := k6) (b := U) (by omega) (by omega)) z) (fun _ => ?_)
        refine r_iconst X (0 : Int32) dX8_layBest_46 (by decide) ?_
        refine r_istore_n [(0, .ref b), (1, .int q1.1), (2, .int (nI k6)), (3, .int (0 : Int32))] X dX8_layBest_47 rfl (by decide) rfl ?_
        refine r_iconst X (0 : Int32) dX8_layBest_48 (by decide) ?_
        refine r_istore [(0, .ref b), (1, .int q1.1), (2, .int (nI k6)), (3, .int (0 : Int32)), (4, .int (0 : Int32))] X dX8_layBest_49 (by decide) rfl ?_
        refine loop_up (P := fun k7 => SW Z 51 [(0, .ref b), (1, .int q1.1), (2, .int (nI k6)), (3, .int (f_Model_layBest_L51 q1.2.2.2.2.1 k6 (0 : Int32) k7)), (4, .int (nI k7))] [] (ov h b (modL b lane many items spare stat tape taped fk fp mat mst tok mval (f_Model_layBest_L36 q1.2.2.2.2.1 Hh W k6) q2.1 q2.2 imgs kept q1.2.1 q1.2.2.1 q1.2.2.2.1 q1.2.2.2.2.1 q1.2.2.2.2.2 mlo mal mpr lak trc ntr))) Hh ?_ ?_ 0 (Nat.zero_le _)
        rotate_left
        · intro k7 hk7 ih
          have hv_b : isV (ov h b (modL b lane many items spare stat tape taped fk fp mat mst tok mval (f_Model_layBest_L36 q1.2.2.2.2.1 Hh W k6) q2.1 q2.2 imgs kept q1.2.1 q1.2.2.1 q1.2.2.2.1 q1.2.2.2.2.1 q1.2.2.2.2.2 mlo mal mpr lak trc ntr)) b (modL b lane many items spare stat tape taped fk fp mat mst tok mval (f_Model_layBest_L36 q1.2.2.2.2.1 Hh W k6) q2.1 q2.2 imgs kept q1.2.1 q1.2.2.1 q1.2.2.2.1 q1.2.2.2.2.1 q1.2.2.2.2.2 mlo mal mpr lak trc ntr) := ov_isV
          refine r_iload X 4 dX8_layBest_51 rfl ?_
          refine r_aload_n X 0 dX8_layBest_53 rfl ?_
          refine gf_X8_25 X dX8_layBest_54 (hv_b 0 _ rfl) rfl ?_
          refine r_iconst X (1 : Int32) dX8_layBest_57 (by decide) ?_
          refine r_ialdv X (v := nI Hh) (k0 := 1) dX8_layBest_58 (hv_b (6 + 0) _ (modL_W (by omega))) (by omega) (by decide) ((lb_small (by decide) _).trans h1) ?_
          refine r_icmp_ge X 93 dX8_layBest_59 rfl (fun z => absurd (nI_lt (a := k7) (b := Hh) (by omega) (by omega)) z) (fun _ => ?_)
          refine r_iload_n X 3 dX8_layBest_62 rfl ?_
          refine r_aload_n X 0 dX8_layBest_63 rfl ?_
          refine gf_X8_53 X dX8_layBest_64 (hv_b 0 _ rfl) rfl ?_
          refine r_iload X 4 dX8_layBest_67 rfl ?_
          refine r_ialdn X (k0 := k7) dX8_layBest_69 (hv_b 15 _ rfl) (by omega) (by decide) ?_
          refine r_iload_n X 2 dX8_layBest_70 rfl ?_
          refine cl_X8_165 X (by decide) dX8_layBest_71 (Nat.le_of_ble_eq_true rfl) (c_Model_has  ) ?_
          refine m_join (P := SW Z 85 [(0, .ref b), (1, .int q1.1), (2, .int (nI k6)), (4, .int (nI k7))] [.int (if (f_Model_has (q1.2.2.2.2.1 k7) (nI k6)) = (0 : Int32) then (0 : Int32) else (1 : Int32) <<< ((nI k7) &&& 31)), .int (f_Model_layBest_L51 q1.2.2.2.2.1 k6 (0 : Int32) k7)] (ov h b (modL b lane many items spare stat tape taped fk fp mat mst tok mval (f_Model_layBest_L36 q1.2.2.2.2.1 Hh W k6) q2.1 q2.2 imgs kept q1.2.1 q1.2.2.1 q1.2.2.2.1 q1.2.2.2.2.1 q1.2.2.2.2.2 mlo mal mpr lak trc ntr))) (fun K => ?_) ?_
          · refine r_if_eq X 84 dX8_layBest_74 rfl (fun c8 => ?_) (fun c8 => ?_)
            · skip
              refine r_iconst X (0 : Int32) dX8_layBest_84 (by decide) ?_
              refine SW.pick [0, 1, 2, 4] [(0, .ref b), (1, .int q1.1), (2, .int (nI k6)), (4, .int (nI k7))] rfl ?_
              try simp only [if_pos c8] at K ⊢
              exact K
            · skip
              refine r_iconst X (1 : Int32) dX8_layBest_77 (by decide) ?_
              refine r_iload X 4 dX8_layBest_78 rfl ?_
              refine r_ishl X dX8_layBest_80 ?_
              refine r_goto X 85 dX8_layBest_81 rfl ?_
              refine SW.pick [0, 1, 2, 4] [(0, .ref b), (1, .int q1.1), (2, .int (nI k6)), (4, .int (nI k7))] rfl ?_
              try simp only [if_neg c8] at K ⊢
              exact K
          have hv_b : isV (ov h b (modL b lane many items spare stat tape taped fk fp mat mst tok mval (f_Model_layBest_L36 q1.2.2.2.2.1 Hh W k6) q2.1 q2.2 imgs kept q1.2.1 q1.2.2.1 q1.2.2.2.1 q1.2.2.2.2.1 q1.2.2.2.2.2 mlo mal mpr lak trc ntr)) b (modL b lane many items spare stat tape taped fk fp mat mst tok mval (f_Model_layBest_L36 q1.2.2.2.2.1 Hh W k6) q2.1 q2.2 imgs kept q1.2.1 q1.2.2.1 q1.2.2.2.1 q1.2.2.2.2.1 q1.2.2.2.2.2 mlo mal mpr lak trc ntr) := ov_isV
          refine r_ior X dX8_layBest_85 ?_
          refine r_istore_n [(0, .ref b), (1, .int q1.1), (2, .int (nI k6)), (3, .int ((f_Model_layBest_L51 q1.2.2.2.2.1 k6 (0 : Int32) k7) ||| (if (f_Model_has (q1.2.2.2.2.1 k7) (nI k6)) = (0 : Int32) then (0 : Int32) else (1 : Int32) <<< ((nI k7) &&& 31)))), (4, .int (nI k7))] X dX8_layBest_86 rfl (by decide) rfl ?_
          refine r_iinc [(0, .ref b), (1, .int q1.1), (2, .int (nI k6)), (3, .int ((f_Model_layBest_L51 q1.2.2.2.2.1 k6 (0 : Int32) k7) ||| (if (f_Model_has (q1.2.2.2.2.1 k7) (nI k6)) = (0 : Int32) then (0 : Int32) else (1 : Int32) <<< ((nI k7) &&& 31)))), (4, .int (nI (k7 + 1)))] X (nI (k7 + 1)) 4 dX8_layBest_87 rfl (nI_succ _).symm (by decide) rfl ?_
          refine r_goto X 51 dX8_layBest_90 rfl ?_
          exact ih
        have hv_b : isV (ov h b (modL b lane many items spare stat tape taped fk fp mat mst tok mval (f_Model_layBest_L36 q1.2.2.2.2.1 Hh W k6) q2.1 q2.2 imgs kept q1.2.1 q1.2.2.1 q1.2.2.2.1 q1.2.2.2.2.1 q1.2.2.2.2.2 mlo mal mpr lak trc ntr)) b (modL b lane many items spare stat tape taped fk fp mat mst tok mval (f_Model_layBest_L36 q1.2.2.2.2.1 Hh W k6) q2.1 q2.2 imgs kept q1.2.1 q1.2.2.1 q1.2.2.2.1 q1.2.2.2.2.1 q1.2.2.2.2.2 mlo mal mpr lak trc ntr) := ov_isV
        refine r_iload X 4 dX8_layBest_51 rfl ?_
        refine r_aload_n X 0 dX8_layBest_53 rfl ?_
        refine gf_X8_25 X dX8_layBest_54 (hv_b 0 _ rfl) rfl ?_
        refine r_iconst X (1 : Int32) dX8_layBest_57 (by decide) ?_
        refine r_ialdv X (v := nI Hh) (k0 := 1) dX8_layBest_58 (hv_b (6 + 0) _ (modL_W (by omega))) (by omega) (by decide) ((lb_small (by decide) _).trans h1) ?_
        refine r_icmp_ge X 93 dX8_layBest_59 rfl (fun _ => ?_) (fun z => absurd z (nI_nlt (a := Hh) (b := Hh) (by omega) (by omega)))
        refine r_aload_n X 0 dX8_layBest_93 rfl ?_
        refine gf_X8_25 X dX8_layBest_94 (hv_b 0 _ rfl) rfl ?_
        refine r_bipush X (9 : Int32) dX8_layBest_97 (by decide) ?_
        refine r_bipush X (8 : Int32) dX8_layBest_99 (by decide) ?_
        refine r_iload_n X 2 dX8_layBest_101 rfl ?_
        refine r_imuln X (a := 8) (b := k6) dX8_layBest_102 ?_
        refine r_iaddn X (a := 9) (b := 8 * k6) dX8_layBest_103 ?_
        refine r_bipush X (7 : Int32) dX8_layBest_104 (by decide) ?_
        refine r_iaddn X (a := 9 + (8 * k6)) (b := 7) dX8_layBest_106 ?_
        refine r_iload_n X 3 dX8_layBest_107 rfl ?_
        refine r_iastn X (k0 := (9 + (8 * k6)) + 7) dX8_layBest_108 (hv_b (6 + 0) _ (modL_W (by omega))) (by omega) (by first | decide | omega) ?_
        refine SW.heq (h2 := (ov h b (modL b lane many items spare stat tape taped fk fp mat mst tok mval (va_up (f_Model_layBest_L36 q1.2.2.2.2.1 Hh W k6) 0 (upd ((f_Model_layBest_L36 q1.2.2.2.2.1 Hh W k6) 0) ((9 + (8 * k6)) + 7) (f_Model_layBest_L51 q1.2.2.2.2.1 k6 (0 : Int32) Hh))) q2.1 q2.2 imgs kept q1.2.1 q1.2.2.1 q1.2.2.2.1 q1.2.2.2.2.1 q1.2.2.2.2.2 mlo mal mpr lak trc ntr))) (ov_up (6 + 0) (show _ < 19 by omega) (modL_Wset (by omega))) ?_
        have hv_b : isV (ov h b (modL b lane many items spare stat tape taped fk fp mat mst tok mval (va_up (f_Model_layBest_L36 q1.2.2.2.2.1 Hh W k6) 0 (upd ((f_Model_layBest_L36 q1.2.2.2.2.1 Hh W k6) 0) ((9 + (8 * k6)) + 7) (f_Model_layBest_L51 q1.2.2.2.2.1 k6 (0 : Int32) Hh))) q2.1 q2.2 imgs kept q1.2.1 q1.2.2.1 q1.2.2.2.1 q1.2.2.2.2.1 q1.2.2.2.2.2 mlo mal mpr lak trc ntr)) b (modL b lane many items spare stat tape taped fk fp mat mst tok mval (va_up (f_Model_layBest_L36 q1.2.2.2.2.1 Hh W k6) 0 (upd ((f_Model_layBest_L36 q1.2.2.2.2.1 Hh W k6) 0) ((9 + (8 * k6)) + 7) (f_Model_layBest_L51 q1.2.2.2.2.1 k6 (0 : Int32) Hh))) q2.1 q2.2 imgs kept q1.2.1 q1.2.2.1 q1.2.2.2.1 q1.2.2.2.2.1 q1.2.2.2.2.2 mlo mal mpr lak trc ntr) := ov_isV
        refine r_iinc [(0, .ref b), (1, .int q1.1), (2, .int (nI (k6 + 1))), (3, .int (f_Model_layBest_L51 q1.2.2.2.2.1 k6 (0 : Int32) Hh)), (4, .int (nI Hh))] X (nI (k6 + 1)) 2 dX8_layBest_109 rfl (nI_succ _).symm (by decide) rfl ?_
        refine r_goto X 36 dX8_layBest_112 rfl ?_
        refine SW.pick [0, 1, 2] [(0, .ref b), (1, .int q1.1), (2, .int (nI (k6 + 1)))] rfl ?_
        exact ih
      have hv_b : isV (ov h b (modL b lane many items spare stat tape taped fk fp mat mst tok mval (f_Model_layBest_L36 q1.2.2.2.2.1 Hh W U) q2.1 q2.2 imgs kept q1.2.1 q1.2.2.1 q1.2.2.2.1 q1.2.2.2.2.1 q1.2.2.2.2.2 mlo mal mpr lak trc ntr)) b (modL b lane many items spare stat tape taped fk fp mat mst tok mval (f_Model_layBest_L36 q1.2.2.2.2.1 Hh W U) q2.1 q2.2 imgs kept q1.2.1 q1.2.2.1 q1.2.2.2.1 q1.2.2.2.2.1 q1.2.2.2.2.2 mlo mal mpr lak trc ntr) := ov_isV
      refine r_iload_n X 2 dX8_layBest_36 rfl ?_
      refine r_aload_n X 0 dX8_layBest_37 rfl ?_
      refine gf_X8_25 X dX8_layBest_38 (hv_b 0 _ rfl) rfl ?_
      refine r_iconst X (0 : Int32) dX8_layBest_41 (by decide) ?_
      refine r_ialdv X (v := nI U) (k0 := 0) dX8_layBest_42 (hv_b (6 + 0) _ (modL_W (by omega))) (by omega) (by decide) ((lb_small (by decide) _).trans h0) ?_
      refine r_icmp_ge X 115 dX8_layBest_43 rfl (fun _ => ?_) (fun z => absurd z (nI_nlt (a := U) (b := U) (by omega) (by omega)))
      refine r_iload_n X 1 dX8_layBest_115 rfl ?_
      try subst hf
      exact r_ireturn X Y dX8_layBest_116 rfl rfl
    · rw [if_pos c2] at hf
      refine r_ldc X dX8_layBest_27 kk_X8_66 ?_
      try subst hf
      exact r_ireturn X Y dX8_layBest_29 rfl rfl
  · rw [if_pos c1] at hf
    refine r_ldc X dX8_layBest_7 kk_X8_223 ?_
    try subst hf
    exact r_ireturn X Y dX8_layBest_9 rfl rfl

def f_Model_who_L152 (U : Nat) (Hh : Nat) (x1 : Int32) (x3 : Int32) (n5 : Nat) : Nat → Int32 → Int32 → Int32 → Int32 → (Nat → Nat → Int32) → (Nat → Int32) → (Nat → Int32) → (Nat → Int32) → (Nat → Int32) → Int32 → Int32 × Int32 × Int32 × Int32 × (Nat → Nat → Int32) × (Nat → Int32) × (Nat → Int32) × (Nat → Int32) × (Nat → Int32) × Int32
  | 0, y6, y7, y8, y9, Wv, gvnv, costsv, lstv, setsv, bstv => (y6, y7, y8, y9, Wv, gvnv, costsv, lstv, setsv, bstv)
  | n + 1, y6, y7, y8, y9, Wv, gvnv, costsv, lstv, setsv, bstv => (if y9 < (if x1 < (2 : Int32) then (0 : Int32) else (1 : Int32)) then (y6, y7, y8, y9, Wv, gvnv, costsv, lstv, setsv, bstv) else (lt_ (f_Model_bestCost (va_up Wv 2 (upd (Wv 2) n5 y9)) gvnv costsv lstv setsv (-1000000 : Int32) 2 U Hh) (fun q1 => f_Model_who_L152 U Hh x1 x3 n5 n (if q1.1 = x3 then y6 ||| (if (1 : Int32) < x1 then (1 : Int32) <<< (y9 &&& 31) else (0 : Int32)) else y6) (if q1.1 = x3 then y7 + (1 : Int32) else y7) (if q1.1 = x3 then y9 else y8) (y9 + (-1 : Int32)) (va_up Wv 2 (upd (Wv 2) n5 y9)) q1.2.1 q1.2.2.1 q1.2.2.2.1 q1.2.2.2.2.1 q1.2.2.2.2.2)))
def f_Model_who (W : Nat → Nat → Int32) (gvn : Nat → Int32) (costs : Nat → Int32) (lst : Nat → Int32) (sets : Nat → Int32) (bst : Int32) (wh : Int32) (x : Int32) (v : Int32) (U : Nat) (Hh : Nat) : Int32 × (Nat → Nat → Int32) × (Nat → Int32) × (Nat → Int32) × (Nat → Int32) × (Nat → Int32) × Int32 := (if (f_Model_isDay W) = (0 : Int32) then ((-1000002 : Int32), W, gvn, costs, lst, sets, bst) else (if (if (f_Model_in wh (0 : Int32) (3 : Int32)) = (0 : Int32) then (0 : Int32) else if wh < (2 : Int32) then if (f_Model_isHour x Hh) = (0 : Int32) then (0 : Int32) else (1 : Int32) else if (f_Model_isUnit x U) = (0 : Int32) then (0 : Int32) else (1 : Int32)) = (0 : Int32) then ((-1000001 : Int32), W, gvn, costs, lst, sets, bst) else (if (f_Model_in v (0 : Int32) (99999 : Int32)) = (0 : Int32) then ((-1000001 : Int32), W, gvn, costs, lst, sets, bst) else (lt_ (f_Model_who_L152 U Hh wh v (if wh < (2 : Int32) then 3 + (x.toNatClampNeg) else (if wh = (2 : Int32) then 9 + (8 * (x.toNatClampNeg)) else (9 + (8 * (x.toNatClampNeg))) + 3)) 62 (0 : Int32) (0 : Int32) (-1000000 : Int32) (if wh < (2 : Int32) then (60 : Int32) else if wh = (2 : Int32) then (5 : Int32) else (9 : Int32)) (va_up W 2 (f_copies (W 0) (W 2) 0 0)) gvn costs lst sets bst) (fun q3 => (if wh = (0 : Int32) then q3.2.1 else if wh = (1 : Int32) then q3.2.2.1 else q3.1, q3.2.2.2.2.1, q3.2.2.2.2.2.1, q3.2.2.2.2.2.2.1, q3.2.2.2.2.2.2.2.1, q3.2.2.2.2.2.2.2.2.1, q3.2.2.2.2.2.2.2.2.2))))))
set_option maxRecDepth 20000 in
set_option maxHeartbeats 4000000 in
theorem c_Model_who {G : mG} {h : mHp} {b : Nat} {lane : Nat → Int32} {many : Nat → Nat} {items : Nat → Int32} {spare : Nat → Int32} {stat : Int32} {tape : Nat → Int32} {taped : Nat} {fk : Int32} {fp : Int32} {mat : Nat} {mst : Nat} {tok : Int32} {mval : Int32} {W : Nat → Nat → Int32} {past : Nat → Int32} {nac : Nat} {imgs : Nat → Int32} {kept : Nat → Int32} {gvn : Nat → Int32} {costs : Nat → Int32} {lst : Nat → Int32} {sets : Nat → Int32} {bst : Int32} {mlo : Int64} {mal : Int32} {mpr : Nat → Int64} {lak : Nat → Int64} {trc : Nat → Int32} {ntr : Nat} {wh : Int32} {x : Int32} {v : Int32} {U : Nat} {Hh : Nat}   (h0 : W 0 0 = nI U) (hU : U ≤ 4) (h1 : W 0 1 = nI Hh) (hH : Hh ≤ 6) : Ret G 7 mX8_who [.ref b, .int wh, .int x, .int v] (ov h b (modL b lane many items spare stat tape taped fk fp mat mst tok mval W past nac imgs kept gvn costs lst sets bst mlo mal mpr lak trc ntr)) (some (.int (f_Model_who W gvn costs lst sets bst wh x v U Hh).1)) (ov h b (modL b lane many items spare stat tape taped fk fp mat mst tok mval (f_Model_who W gvn costs lst sets bst wh x v U Hh).2.1 past nac imgs kept (f_Model_who W gvn costs lst sets bst wh x v U Hh).2.2.1 (f_Model_who W gvn costs lst sets bst wh x v U Hh).2.2.2.1 (f_Model_who W gvn costs lst sets bst wh x v U Hh).2.2.2.2.1 (f_Model_who W gvn costs lst sets bst wh x v U Hh).2.2.2.2.2.1 (f_Model_who W gvn costs lst sets bst wh x v U Hh).2.2.2.2.2.2 mlo mal mpr lak trc ntr)) := by
  generalize hf : f_Model_who W gvn costs lst sets bst wh x v U Hh = R
  unfold f_Model_who at hf
  refine Ret.of [(0, .ref b), (1, .int wh), (2, .int x), (3, .int v)] (by decide) (Nat.le_of_ble_eq_true rfl) rfl ?_
  rintro Z rfl X Y
  have hv_b : isV (ov h b (modL b lane many items spare stat tape taped fk fp mat mst tok mval W past nac imgs kept gvn costs lst sets bst mlo mal mpr lak trc ntr)) b (modL b lane many items spare stat tape taped fk fp mat mst tok mval W past nac imgs kept gvn costs lst sets bst mlo mal mpr lak trc ntr) := ov_isV
  refine r_aload_n X 0 dX8_who_0 rfl ?_
  refine cl_X8_227 X (by decide) dX8_who_1 (Nat.le_of_ble_eq_true rfl) (hv_b 0 _ rfl) (c_Model_isDay hv_b ) ?_
  refine r_if_ne X 10 dX8_who_4 rfl (fun c1 => ?_) (fun c1 => ?_)
  · rw [if_neg c1] at hf
    refine r_iload_n X 1 dX8_who_10 rfl ?_
    refine r_iconst X (0 : Int32) dX8_who_11 (by decide) ?_
    refine r_iconst X (3 : Int32) dX8_who_12 (by decide) ?_
    refine cl_X8_72 X (by decide) dX8_who_13 (Nat.le_of_ble_eq_true rfl) (c_Model_in  ) ?_
    refine m_join (P := SW Z 48 [(0, .ref b), (1, .int wh), (2, .int x), (3, .int v)] [.int (if (f_Model_in wh (0 : Int32) (3 : Int32)) = (0 : Int32) then (0 : Int32) else if wh < (2 : Int32) then if (f_Model_isHour x Hh) = (0 : Int32) then (0 : Int32) else (1 : Int32) else if (f_Model_isUnit x U) = (0 : Int32) then (0 : Int32) else (1 : Int32))] (ov h b (modL b lane many items spare stat tape taped fk fp mat mst tok mval W past nac imgs kept gvn costs lst sets bst mlo mal mpr lak trc ntr))) (fun K => ?_) ?_
    · refine r_if_eq X 47 dX8_who_16 rfl (fun c2 => ?_) (fun c2 => ?_)
      · skip
        refine r_iconst X (0 : Int32) dX8_who_47 (by decide) ?_
        try simp only [if_pos c2] at K ⊢
        exact K
      · skip
        refine r_iload_n X 1 dX8_who_19 rfl ?_
        refine r_iconst X (2 : Int32) dX8_who_20 (by decide) ?_
        refine m_join (P := SW Z 48 [(0, .ref b), (1, .int wh), (2, .int x), (3, .int v)] [.int (if wh < (2 : Int32) then if (f_Model_isHour x Hh) = (0 : Int32) then (0 : Int32) else (1 : Int32) else if (f_Model_isUnit x U) = (0 : Int32) then (0 : Int32) else (1 : Int32))] (ov h b (modL b lane many items spare stat tape taped fk fp mat mst tok mval W past nac imgs kept gvn costs lst sets bst mlo mal mpr lak trc ntr))) (fun K => ?_) ?_
        · refine r_icmp_ge X 35 dX8_who_21 rfl (fun c3 => ?_) (fun c3 => ?_)
          · skip
            refine r_aload_n X 0 dX8_who_35 rfl ?_
            refine r_iload_n X 2 dX8_who_36 rfl ?_
            refine cl_X8_220 X (by decide) dX8_who_37 (Nat.le_of_ble_eq_true rfl) (hv_b 0 _ rfl) (c_Model_isUnit hv_b (by first | assumption | omega) (by first | assumption | omega)) ?_
            refine m_join (P := SW Z 48 [(0, .ref b), (1, .int wh), (2, .int x), (3, .int v)] [.int (if (f_Model_isUnit x U) = (0 : Int32) then (0 : Int32) else (1 : Int32))] (ov h b (modL b lane many items spare stat tape taped fk fp mat mst tok mval W past nac imgs kept gvn costs lst sets bst mlo mal mpr lak trc ntr))) (fun K => ?_) ?_
            · refine r_if_eq X 47 dX8_who_40 rfl (fun c4 => ?_) (fun c4 => ?_)
              · skip
                refine r_iconst X (0 : Int32) dX8_who_47 (by decide) ?_
                try simp only [if_pos c4] at K ⊢
                exact K
              · skip
                refine r_iconst X (1 : Int32) dX8_who_43 (by decide) ?_
                refine r_goto X 48 dX8_who_44 rfl ?_
                try simp only [if_neg c4] at K ⊢
                exact K
            have hv_b : isV (ov h b (modL b lane many items spare stat tape taped fk fp mat mst tok mval W past nac imgs kept gvn costs lst sets bst mlo mal mpr lak trc ntr)) b (modL b lane many items spare stat tape taped fk fp mat mst tok mval W past nac imgs kept gvn costs lst sets bst mlo mal mpr lak trc ntr) := ov_isV
            try simp only [if_neg c3] at K ⊢
            exact K
          · skip
            refine r_aload_n X 0 dX8_who_24 rfl ?_
            refine r_iload_n X 2 dX8_who_25 rfl ?_
            refine cl_X8_233 X (by decide) dX8_who_26 (Nat.le_of_ble_eq_true rfl) (hv_b 0 _ rfl) (c_Model_isHour hv_b (by first | assumption | omega) (by first | assumption | omega)) ?_
            refine m_join (P := SW Z 48 [(0, .ref b), (1, .int wh), (2, .int x), (3, .int v)] [.int (if (f_Model_isHour x Hh) = (0 : Int32) then (0 : Int32) else (1 : Int32))] (ov h b (modL b lane many items spare stat tape taped fk fp mat mst tok mval W past nac imgs kept gvn costs lst sets bst mlo mal mpr lak trc ntr))) (fun K => ?_) ?_
            · refine r_if_eq X 47 dX8_who_29 rfl (fun c5 => ?_) (fun c5 => ?_)
              · skip
                refine r_iconst X (0 : Int32) dX8_who_47 (by decide) ?_
                try simp only [if_pos c5] at K ⊢
                exact K
              · skip
                refine r_goto X 43 dX8_who_32 rfl ?_
                refine r_iconst X (1 : Int32) dX8_who_43 (by decide) ?_
                refine r_goto X 48 dX8_who_44 rfl ?_
                try simp only [if_neg c5] at K ⊢
                exact K
            have hv_b : isV (ov h b (modL b lane many items spare stat tape taped fk fp mat mst tok mval W past nac imgs kept gvn costs lst sets bst mlo mal mpr lak trc ntr)) b (modL b lane many items spare stat tape taped fk fp mat mst tok mval W past nac imgs kept gvn costs lst sets bst mlo mal mpr lak trc ntr) := ov_isV
            try simp only [if_pos c3] at K ⊢
            exact K
        have hv_b : isV (ov h b (modL b lane many items spare stat tape taped fk fp mat mst tok mval W past nac imgs kept gvn costs lst sets bst mlo mal mpr lak trc ntr)) b (modL b lane many items spare stat tape taped fk fp mat mst tok mval W past nac imgs kept gvn costs lst sets bst mlo mal mpr lak trc ntr) := ov_isV
        try simp only [if_neg c2] at K ⊢
        exact K
    have hv_b : isV (ov h b (modL b lane many items spare stat tape taped fk fp mat mst tok mval W past nac imgs kept gvn costs lst sets bst mlo mal mpr lak trc ntr)) b (modL b lane many items spare stat tape taped fk fp mat mst tok mval W past nac imgs kept gvn costs lst sets bst mlo mal mpr lak trc ntr) := ov_isV
    refine r_istore [(0, .ref b), (1, .int wh), (2, .int x), (3, .int v), (4, .int (if (f_Model_in wh (0 : Int32) (3 : Int32)) = (0 : Int32) then (0 : Int32) else if wh < (2 : Int32) then if (f_Model_isHour x Hh) = (0 : Int32) then (0 : Int32) else (1 : Int32) else if (f_Model_isUnit x U) = (0 : Int32) then (0 : Int32) else (1 : Int32)))] X dX8_who_48 (by decide) rfl ?_
    refine r_iload X 4 dX8_who_50 rfl ?_
    refine r_if_eq X 66 dX8_who_52 rfl (fun cx => ?_) (fun cx => ?_)
    · rw [if_pos cx] at hf
      refine r_ldc X dX8_who_66 kk_X8_80 ?_
      try subst hf
      exact r_ireturn X Y dX8_who_68 rfl rfl
    · rw [if_neg cx] at hf
      refine r_iload_n X 3 dX8_who_55 rfl ?_
      refine r_iconst X (0 : Int32) dX8_who_56 (by decide) ?_
      refine r_ldcw X dX8_who_57 kk_X8_285 ?_
      refine cl_X8_72 X (by decide) dX8_who_60 (Nat.le_of_ble_eq_true rfl) (c_Model_in  ) ?_
      refine r_if_ne X 69 dX8_who_63 rfl (fun c6 => ?_) (fun c6 => ?_)
      · rw [if_neg c6] at hf
        obtain ⟨k, hk, rfl⟩ := who_x hU hH cx
        try simp only [nI_clamp (show k < 2 ^ 31 by omega)] at hf
        refine r_aload_n X 0 dX8_who_69 rfl ?_
        refine gf_X8_25 X dX8_who_70 (hv_b 0 _ rfl) rfl ?_
        refine r_iconst X (0 : Int32) dX8_who_73 (by decide) ?_
        refine r_aload_n X 0 dX8_who_74 rfl ?_
        refine gf_X8_31 X dX8_who_75 (hv_b 0 _ rfl) rfl ?_
        refine r_iconst X (0 : Int32) dX8_who_78 (by decide) ?_
        refine cl_X8_154 X (by decide) dX8_who_79 (Nat.le_of_ble_eq_true rfl) (c_copies_up (a := 0) (c := 0) (hv_b (6 + 0) _ (modL_W (by omega))) (hv_b (6 + 2) _ (modL_W (by omega))) (by omega) (by omega) (by omega)) ?_
        refine SW.heq (h2 := (ov h b (modL b lane many items spare stat tape taped fk fp mat mst tok mval (va_up W 2 (f_copies (W 0) (W 2) 0 0)) past nac imgs kept gvn costs lst sets bst mlo mal mpr lak trc ntr))) (ov_up (6 + 2) (show _ < 19 by omega) (modL_Wset (by omega))) ?_
        have hv_b : isV (ov h b (modL b lane many items spare stat tape taped fk fp mat mst tok mval (va_up W 2 (f_copies (W 0) (W 2) 0 0)) past nac imgs kept gvn costs lst sets bst mlo mal mpr lak trc ntr)) b (modL b lane many items spare stat tape taped fk fp mat mst tok mval (va_up W 2 (f_copies (W 0) (W 2) 0 0)) past nac imgs kept gvn costs lst sets bst mlo mal mpr lak trc ntr) := ov_isV
        refine r_iload_n X 1 dX8_who_82 rfl ?_
        refine r_iconst X (2 : Int32) dX8_who_83 (by decide) ?_
        refine m_join (P := SW Z 117 [(0, .ref b), (1, .int wh), (3, .int v)] [.int (nI (if wh < (2 : Int32) then 3 + k else (if wh = (2 : Int32) then 9 + (8 * k) else (9 + (8 * k)) + 3)))] (ov h b (modL b lane many items spare stat tape taped fk fp mat mst tok mval (va_up W 2 (f_copies (W 0) (W 2) 0 0)) past nac imgs kept gvn costs lst sets bst mlo mal mpr lak trc ntr))) (fun K => ?_) ?_
        · refine r_icmp_ge X 93 dX8_who_84 rfl (fun c7 => ?_) (fun c7 => ?_)
          · skip
            refine r_iload_n X 1 dX8_who_93 rfl ?_
            refine r_iconst X (2 : Int32) dX8_who_94 (by decide) ?_
            refine m_join (P := SW Z 117 [(0, .ref b), (1, .int wh), (3, .int v)] [.int (nI (if wh = (2 : Int32) then 9 + (8 * k) else (9 + (8 * k)) + 3))] (ov h b (modL b lane many items spare stat tape taped fk fp mat mst tok mval (va_up W 2 (f_copies (W 0) (W 2) 0 0)) past nac imgs kept gvn costs lst sets bst mlo mal mpr lak trc ntr))) (fun K => ?_) ?_
            · refine r_icmp_ne X 108 dX8_who_95 rfl (fun c8 => ?_) (fun c8 => ?_)
              · skip
                refine r_bipush X (9 : Int32) dX8_who_108 (by decide) ?_
                refine r_bipush X (8 : Int32) dX8_who_110 (by decide) ?_
                refine r_iload_n X 2 dX8_who_112 rfl ?_
                refine r_imuln X (a := 8) (b := k) dX8_who_113 ?_
                refine r_iaddn X (a := 9) (b := 8 * k) dX8_who_114 ?_
                refine r_iconst X (3 : Int32) dX8_who_115 (by decide) ?_
                refine r_iaddn X (a := 9 + (8 * k)) (b := 3) dX8_who_116 ?_
                refine SW.pick [0, 1, 3] [(0, .ref b), (1, .int wh), (3, .int v)] rfl ?_
                try simp only [if_neg c8] at K ⊢
                exact K
              · skip
                refine r_bipush X (9 : Int32) dX8_who_98 (by decide) ?_
                refine r_bipush X (8 : Int32) dX8_who_100 (by decide) ?_
                refine r_iload_n X 2 dX8_who_102 rfl ?_
                refine r_imuln X (a := 8) (b := k) dX8_who_103 ?_
                refine r_iaddn X (a := 9) (b := 8 * k) dX8_who_104 ?_
                refine r_goto X 117 dX8_who_105 rfl ?_
                refine SW.pick [0, 1, 3] [(0, .ref b), (1, .int wh), (3, .int v)] rfl ?_
                try simp only [if_pos c8] at K ⊢
                exact K
            have hv_b : isV (ov h b (modL b lane many items spare stat tape taped fk fp mat mst tok mval (va_up W 2 (f_copies (W 0) (W 2) 0 0)) past nac imgs kept gvn costs lst sets bst mlo mal mpr lak trc ntr)) b (modL b lane many items spare stat tape taped fk fp mat mst tok mval (va_up W 2 (f_copies (W 0) (W 2) 0 0)) past nac imgs kept gvn costs lst sets bst mlo mal mpr lak trc ntr) := ov_isV
            try simp only [if_neg c7] at K ⊢
            exact K
          · skip
            refine r_iconst X (3 : Int32) dX8_who_87 (by decide) ?_
            refine r_iload_n X 2 dX8_who_88 rfl ?_
            refine r_iaddn X (a := 3) (b := k) dX8_who_89 ?_
            refine r_goto X 117 dX8_who_90 rfl ?_
            refine SW.pick [0, 1, 3] [(0, .ref b), (1, .int wh), (3, .int v)] rfl ?_
            try simp only [if_pos c7] at K ⊢
            exact K
        have hv_b : isV (ov h b (modL b lane many items spare stat tape taped fk fp mat mst tok mval (va_up W 2 (f_copies (W 0) (W 2) 0 0)) past nac imgs kept gvn costs lst sets bst mlo mal mpr lak trc ntr)) b (modL b lane many items spare stat tape taped fk fp mat mst tok mval (va_up W 2 (f_copies (W 0) (W 2) 0 0)) past nac imgs kept gvn costs lst sets bst mlo mal mpr lak trc ntr) := ov_isV
        refine r_istore [(0, .ref b), (1, .int wh), (3, .int v), (5, .int (nI (if wh < (2 : Int32) then 3 + k else (if wh = (2 : Int32) then 9 + (8 * k) else (9 + (8 * k)) + 3))))] X dX8_who_117 (by decide) rfl ?_
        refine r_iconst X (0 : Int32) dX8_who_119 (by decide) ?_
        refine r_istore [(0, .ref b), (1, .int wh), (3, .int v), (5, .int (nI (if wh < (2 : Int32) then 3 + k else (if wh = (2 : Int32) then 9 + (8 * k) else (9 + (8 * k)) + 3)))), (6, .int (0 : Int32))] X dX8_who_120 (by decide) rfl ?_
        refine r_iconst X (0 : Int32) dX8_who_122 (by decide) ?_
        refine r_istore [(0, .ref b), (1, .int wh), (3, .int v), (5, .int (nI (if wh < (2 : Int32) then 3 + k else (if wh = (2 : Int32) then 9 + (8 * k) else (9 + (8 * k)) + 3)))), (6, .int (0 : Int32)), (7, .int (0 : Int32))] X dX8_who_123 (by decide) rfl ?_
        refine r_ldc X dX8_who_125 kk_X8_66 ?_
        refine r_istore [(0, .ref b), (1, .int wh), (3, .int v), (5, .int (nI (if wh < (2 : Int32) then 3 + k else (if wh = (2 : Int32) then 9 + (8 * k) else (9 + (8 * k)) + 3)))), (6, .int (0 : Int32)), (7, .int (0 : Int32)), (8, .int (-1000000 : Int32))] X dX8_who_127 (by decide) rfl ?_
        refine r_iload_n X 1 dX8_who_129 rfl ?_
        refine r_iconst X (2 : Int32) dX8_who_130 (by decide) ?_
        refine m_join (P := SW Z 150 [(0, .ref b), (1, .int wh), (3, .int v), (5, .int (nI (if wh < (2 : Int32) then 3 + k else (if wh = (2 : Int32) then 9 + (8 * k) else (9 + (8 * k)) + 3)))), (6, .int (0 : Int32)), (7, .int (0 : Int32)), (8, .int (-1000000 : Int32))] [.int (if wh < (2 : Int32) then (60 : Int32) else if wh = (2 : Int32) then (5 : Int32) else (9 : Int32))] (ov h b (modL b lane many items spare stat tape taped fk fp mat mst tok mval (va_up W 2 (f_copies (W 0) (W 2) 0 0)) past nac imgs kept gvn costs lst sets bst mlo mal mpr lak trc ntr))) (fun K => ?_) ?_
        · refine r_icmp_ge X 139 dX8_who_131 rfl (fun c9 => ?_) (fun c9 => ?_)
          · skip
            refine r_iload_n X 1 dX8_who_139 rfl ?_
            refine r_iconst X (2 : Int32) dX8_who_140 (by decide) ?_
            refine m_join (P := SW Z 150 [(0, .ref b), (1, .int wh), (3, .int v), (5, .int (nI (if wh < (2 : Int32) then 3 + k else (if wh = (2 : Int32) then 9 + (8 * k) else (9 + (8 * k)) + 3)))), (6, .int (0 : Int32)), (7, .int (0 : Int32)), (8, .int (-1000000 : Int32))] [.int (if wh = (2 : Int32) then (5 : Int32) else (9 : Int32))] (ov h b (modL b lane many items spare stat tape taped fk fp mat mst tok mval (va_up W 2 (f_copies (W 0) (W 2) 0 0)) past nac imgs kept gvn costs lst sets bst mlo mal mpr lak trc ntr))) (fun K => ?_) ?_
            · refine r_icmp_ne X 148 dX8_who_141 rfl (fun c10 => ?_) (fun c10 => ?_)
              · skip
                refine r_bipush X (9 : Int32) dX8_who_148 (by decide) ?_
                try simp only [if_neg c10] at K ⊢
                exact K
              · skip
                refine r_iconst X (5 : Int32) dX8_who_144 (by decide) ?_
                refine r_goto X 150 dX8_who_145 rfl ?_
                try simp only [if_pos c10] at K ⊢
                exact K
            have hv_b : isV (ov h b (modL b lane many items spare stat tape taped fk fp mat mst tok mval (va_up W 2 (f_copies (W 0) (W 2) 0 0)) past nac imgs kept gvn costs lst sets bst mlo mal mpr lak trc ntr)) b (modL b lane many items spare stat tape taped fk fp mat mst tok mval (va_up W 2 (f_copies (W 0) (W 2) 0 0)) past nac imgs kept gvn costs lst sets bst mlo mal mpr lak trc ntr) := ov_isV
            try simp only [if_neg c9] at K ⊢
            exact K
          · skip
            refine r_bipush X (60 : Int32) dX8_who_134 (by decide) ?_
            refine r_goto X 150 dX8_who_136 rfl ?_
            try simp only [if_pos c9] at K ⊢
            exact K
        have hv_b : isV (ov h b (modL b lane many items spare stat tape taped fk fp mat mst tok mval (va_up W 2 (f_copies (W 0) (W 2) 0 0)) past nac imgs kept gvn costs lst sets bst mlo mal mpr lak trc ntr)) b (modL b lane many items spare stat tape taped fk fp mat mst tok mval (va_up W 2 (f_copies (W 0) (W 2) 0 0)) past nac imgs kept gvn costs lst sets bst mlo mal mpr lak trc ntr) := ov_isV
        refine r_istore [(0, .ref b), (1, .int wh), (3, .int v), (5, .int (nI (if wh < (2 : Int32) then 3 + k else (if wh = (2 : Int32) then 9 + (8 * k) else (9 + (8 * k)) + 3)))), (6, .int (0 : Int32)), (7, .int (0 : Int32)), (8, .int (-1000000 : Int32)), (9, .int (if wh < (2 : Int32) then (60 : Int32) else if wh = (2 : Int32) then (5 : Int32) else (9 : Int32)))] X dX8_who_150 (by decide) rfl ?_
        have wl14 : ∀ (n_ : Nat) (y6 : Int32) (y7 : Int32) (y8 : Int32) (y9 : Int32) (Wv : Nat → Nat → Int32) (gvnv : Nat → Int32) (costsv : Nat → Int32) (lstv : Nat → Int32) (setsv : Nat → Int32) (bstv : Int32), (Wv 2 0 = nI U ∧ Wv 2 1 = nI Hh ∧ (y9 + 1).toNatClampNeg ≤ 61 ∧ y9 < 100) → ((y9 + 1).toNatClampNeg) < n_ → ((((f_Model_who_L152 U Hh wh v (if wh < (2 : Int32) then 3 + k else (if wh = (2 : Int32) then 9 + (8 * k) else (9 + (8 * k)) + 3)) n_ y6 y7 y8 y9 Wv gvnv costsv lstv setsv bstv).2.2.2.2.1) 2 0 = nI U ∧ ((f_Model_who_L152 U Hh wh v (if wh < (2 : Int32) then 3 + k else (if wh = (2 : Int32) then 9 + (8 * k) else (9 + (8 * k)) + 3)) n_ y6 y7 y8 y9 Wv gvnv costsv lstv setsv bstv).2.2.2.2.1) 2 1 = nI Hh ∧ (((f_Model_who_L152 U Hh wh v (if wh < (2 : Int32) then 3 + k else (if wh = (2 : Int32) then 9 + (8 * k) else (9 + (8 * k)) + 3)) n_ y6 y7 y8 y9 Wv gvnv costsv lstv setsv bstv).2.2.2.1) + 1).toNatClampNeg ≤ 61 ∧ ((f_Model_who_L152 U Hh wh v (if wh < (2 : Int32) then 3 + k else (if wh = (2 : Int32) then 9 + (8 * k) else (9 + (8 * k)) + 3)) n_ y6 y7 y8 y9 Wv gvnv costsv lstv setsv bstv).2.2.2.1) < 100) → SW Z 221 [(1, .int wh), (6, .int ((f_Model_who_L152 U Hh wh v (if wh < (2 : Int32) then 3 + k else (if wh = (2 : Int32) then 9 + (8 * k) else (9 + (8 * k)) + 3)) n_ y6 y7 y8 y9 Wv gvnv costsv lstv setsv bstv).1)), (7, .int ((f_Model_who_L152 U Hh wh v (if wh < (2 : Int32) then 3 + k else (if wh = (2 : Int32) then 9 + (8 * k) else (9 + (8 * k)) + 3)) n_ y6 y7 y8 y9 Wv gvnv costsv lstv setsv bstv).2.1)), (8, .int ((f_Model_who_L152 U Hh wh v (if wh < (2 : Int32) then 3 + k else (if wh = (2 : Int32) then 9 + (8 * k) else (9 + (8 * k)) + 3)) n_ y6 y7 y8 y9 Wv gvnv costsv lstv setsv bstv).2.2.1))] [] (ov h b (modL b lane many items spare stat tape taped fk fp mat mst tok mval ((f_Model_who_L152 U Hh wh v (if wh < (2 : Int32) then 3 + k else (if wh = (2 : Int32) then 9 + (8 * k) else (9 + (8 * k)) + 3)) n_ y6 y7 y8 y9 Wv gvnv costsv lstv setsv bstv).2.2.2.2.1) past nac imgs kept ((f_Model_who_L152 U Hh wh v (if wh < (2 : Int32) then 3 + k else (if wh = (2 : Int32) then 9 + (8 * k) else (9 + (8 * k)) + 3)) n_ y6 y7 y8 y9 Wv gvnv costsv lstv setsv bstv).2.2.2.2.2.1) ((f_Model_who_L152 U Hh wh v (if wh < (2 : Int32) then 3 + k else (if wh = (2 : Int32) then 9 + (8 * k) else (9 + (8 * k)) + 3)) n_ y6 y7 y8 y9 Wv gvnv costsv lstv setsv bstv).2.2.2.2.2.2.1) ((f_Model_who_L152 U Hh wh v (if wh < (2 : Int32) then 3 + k else (if wh = (2 : Int32) then 9 + (8 * k) else (9 + (8 * k)) + 3)) n_ y6 y7 y8 y9 Wv gvnv costsv lstv setsv bstv).2.2.2.2.2.2.2.1) ((f_Model_who_L152 U Hh wh v (if wh < (2 : Int32) then 3 + k else (if wh = (2 : Int32) then 9 + (8 * k) else (9 + (8 * k)) + 3)) n_ y6 y7 y8 y9 Wv gvnv costsv lstv setsv bstv).2.2.2.2.2.2.2.2.1) ((f_Model_who_L152 U Hh wh v (if wh < (2 : Int32) then 3 + k else (if wh = (2 : Int32) then 9 + (8 * k) else (9 + (8 * k)) + 3)) n_ y6 y7 y8 y9 Wv gvnv costsv lstv setsv bstv).2.2.2.2.2.2.2.2.2) mlo mal mpr lak trc ntr))) → SW Z 152 [(0, .ref b), (1, .int wh), (3, .int v), (5, .int (nI (if wh < (2 : Int32) then 3 + k else (if wh = (2 : Int32) then 9 + (8 * k) else (9 + (8 * k)) + 3)))), (6, .int y6), (7, .int y7), (8, .int y8), (9, .int y9)] [] (ov h b (modL b lane many items spare stat tape taped fk fp mat mst tok mval Wv past nac imgs kept gvnv costsv lstv setsv bstv mlo mal mpr lak trc ntr)) := by
          intro n_
          induction n_ with
          | zero => intro y6 y7 y8 y9 Wv gvnv costsv lstv setsv bstv _ hm; exact absurd hm (Nat.not_lt_zero _)
          | succ n_ ih =>
            intro y6 y7 y8 y9 Wv gvnv costsv lstv setsv bstv hi hm K
            generalize hf : f_Model_who_L152 U Hh wh v (if wh < (2 : Int32) then 3 + k else (if wh = (2 : Int32) then 9 + (8 * k) else (9 + (8 * k)) + 3)) (n_ + 1) y6 y7 y8 y9 Wv gvnv costsv lstv setsv bstv = Rl at K
            rw [f_Model_who_L152] at hf
            have hv_b : isV (ov h b (modL b lane many items spare stat tape taped fk fp mat mst tok mval Wv past nac imgs kept gvnv costsv lstv setsv bstv mlo mal mpr lak trc ntr)) b (modL b lane many items spare stat tape taped fk fp mat mst tok mval Wv past nac imgs kept gvnv costsv lstv setsv bstv mlo mal mpr lak trc ntr) := ov_isV
            refine r_iload X 7 dX8_who_152 rfl ?_
            refine r_iload_n X 1 dX8_who_154 rfl ?_
            refine r_iconst X (2 : Int32) dX8_who_155 (by decide) ?_
            refine m_join (P := SW Z 164 [(0, .ref b), (1, .int wh), (3, .int v), (5, .int (nI (if wh < (2 : Int32) then 3 + k else (if wh = (2 : Int32) then 9 + (8 * k) else (9 + (8 * k)) + 3)))), (6, .int y6), (7, .int y7), (8, .int y8), (9, .int y9)] [.int (if wh < (2 : Int32) then (0 : Int32) else (1 : Int32)), .int y9] (ov h b (modL b lane many items spare stat tape taped fk fp mat mst tok mval Wv past nac imgs kept gvnv costsv lstv setsv bstv mlo mal mpr lak trc ntr))) (fun K => ?_) ?_
            · refine r_icmp_ge X 163 dX8_who_156 rfl (fun c15 => ?_) (fun c15 => ?_)
              · skip
                refine r_iconst X (1 : Int32) dX8_who_163 (by decide) ?_
                try simp only [if_neg c15] at K ⊢
                exact K
              · skip
                refine r_iconst X (0 : Int32) dX8_who_159 (by decide) ?_
                refine r_goto X 164 dX8_who_160 rfl ?_
                try simp only [if_pos c15] at K ⊢
                exact K
            have hv_b : isV (ov h b (modL b lane many items spare stat tape taped fk fp mat mst tok mval Wv past nac imgs kept gvnv costsv lstv setsv bstv mlo mal mpr lak trc ntr)) b (modL b lane many items spare stat tape taped fk fp mat mst tok mval Wv past nac imgs kept gvnv costsv lstv setsv bstv mlo mal mpr lak trc ntr) := ov_isV
            refine r_icmp_lt X 221 dX8_who_164 rfl (fun ci => ?_) (fun ci => ?_)
            · rw [if_pos ci] at hf
              refine SW.pick [1, 4, 5, 6] [(1, .int wh), (6, .int y6), (7, .int y7), (8, .int y8)] rfl ?_
              subst hf
              exact K hi
            · rw [if_neg ci] at hf
              obtain ⟨yn, hyn, eyn⟩ := its_nat hi.2.2.1 ci hi.2.2.2
              refine r_aload_n X 0 dX8_who_167 rfl ?_
              refine gf_X8_31 X dX8_who_168 (hv_b 0 _ rfl) rfl ?_
              refine r_iload X 3 dX8_who_171 rfl ?_
              refine r_iload X 7 dX8_who_173 rfl ?_
              refine r_iastn X (k0 := (if wh < (2 : Int32) then 3 + k else (if wh = (2 : Int32) then 9 + (8 * k) else (9 + (8 * k)) + 3))) dX8_who_175 (hv_b (6 + 2) _ (modL_W (by omega))) (who_pl hk).2 (by first | decide | omega) ?_
              refine SW.heq (h2 := (ov h b (modL b lane many items spare stat tape taped fk fp mat mst tok mval (va_up Wv 2 (upd (Wv 2) (if wh < (2 : Int32) then 3 + k else (if wh = (2 : Int32) then 9 + (8 * k) else (9 + (8 * k)) + 3)) y9)) past nac imgs kept gvnv costsv lstv setsv bstv mlo mal mpr lak trc ntr))) (ov_up (6 + 2) (show _ < 19 by omega) (modL_Wset (by omega))) ?_
              have hv_b : isV (ov h b (modL b lane many items spare stat tape taped fk fp mat mst tok mval (va_up Wv 2 (upd (Wv 2) (if wh < (2 : Int32) then 3 + k else (if wh = (2 : Int32) then 9 + (8 * k) else (9 + (8 * k)) + 3)) y9)) past nac imgs kept gvnv costsv lstv setsv bstv mlo mal mpr lak trc ntr)) b (modL b lane many items spare stat tape taped fk fp mat mst tok mval (va_up Wv 2 (upd (Wv 2) (if wh < (2 : Int32) then 3 + k else (if wh = (2 : Int32) then 9 + (8 * k) else (9 + (8 * k)) + 3)) y9)) past nac imgs kept gvnv costsv lstv setsv bstv mlo mal mpr lak trc ntr) := ov_isV
              refine r_aload_n X 0 dX8_who_176 rfl ?_
              refine r_aload_n X 0 dX8_who_177 rfl ?_
              refine gf_X8_31 X dX8_who_178 (hv_b 0 _ rfl) rfl ?_
              refine r_ldc X dX8_who_181 kk_X8_66 ?_
              refine cl_X8_230 X (by decide) dX8_who_183 (Nat.le_of_ble_eq_true rfl) (hv_b 0 _ rfl) (c_Model_bestCost  (by first | assumption | omega) (tr_at ((pk_un (ne_of_3 (by decide) (who_pl hk).1)).trans hi.1)) (by first | assumption | omega) (tr_at ((pk_un (ne_of_3 (by decide) (who_pl hk).1)).trans hi.2.1)) (by first | assumption | omega)) ?_
              obtain ⟨q2, eq2⟩ : ∃ q, q = f_Model_bestCost (va_up Wv 2 (upd (Wv 2) (if wh < (2 : Int32) then 3 + k else (if wh = (2 : Int32) then 9 + (8 * k) else (9 + (8 * k)) + 3)) y9)) gvnv costsv lstv setsv (-1000000 : Int32) 2 U Hh := ⟨_, rfl⟩
              rw [← eq2]
              rw [← eq2] at hf
              rw [lt_eq] at hf
              have hv_b : isV (ov h b (modL b lane many items spare stat tape taped fk fp mat mst tok mval (va_up Wv 2 (upd (Wv 2) (if wh < (2 : Int32) then 3 + k else (if wh = (2 : Int32) then 9 + (8 * k) else (9 + (8 * k)) + 3)) y9)) past nac imgs kept q2.2.1 q2.2.2.1 q2.2.2.2.1 q2.2.2.2.2.1 q2.2.2.2.2.2 mlo mal mpr lak trc ntr)) b (modL b lane many items spare stat tape taped fk fp mat mst tok mval (va_up Wv 2 (upd (Wv 2) (if wh < (2 : Int32) then 3 + k else (if wh = (2 : Int32) then 9 + (8 * k) else (9 + (8 * k)) + 3)) y9)) past nac imgs kept q2.2.1 q2.2.2.1 q2.2.2.2.1 q2.2.2.2.2.1 q2.2.2.2.2.2 mlo mal mpr lak trc ntr) := ov_isV
              refine r_iload_n X 2 dX8_who_186 rfl ?_
              refine m_join (P := SW Z 215 [(0, .ref b), (1, .int wh), (3, .int v), (5, .int (nI (if wh < (2 : Int32) then 3 + k else (if wh = (2 : Int32) then 9 + (8 * k) else (9 + (8 * k)) + 3)))), (6, .int (if q2.1 = v then y6 ||| (if (1 : Int32) < wh then (1 : Int32) <<< (y9 &&& 31) else (0 : Int32)) else y6)), (7, .int (if q2.1 = v then y7 + (1 : Int32) else y7)), (8, .int (if q2.1 = v then y9 else y8)), (9, .int y9)] [] (ov h b (modL b lane many items spare stat tape taped fk fp mat mst tok mval (va_up Wv 2 (upd (Wv 2) (if wh < (2 : Int32) then 3 + k else (if wh = (2 : Int32) then 9 + (8 * k) else (9 + (8 * k)) + 3)) y9)) past nac imgs kept q2.2.1 q2.2.2.1 q2.2.2.2.1 q2.2.2.2.2.1 q2.2.2.2.2.2 mlo mal mpr lak trc ntr))) (fun K => ?_) ?_
              · refine r_icmp_ne X 215 dX8_who_187 rfl (fun c16 => ?_) (fun c16 => ?_)
                · skip
                  try simp only [if_neg c16] at K ⊢
                  exact K
                · skip
                  refine r_iload X 4 dX8_who_190 rfl ?_
                  refine r_iload_n X 1 dX8_who_192 rfl ?_
                  refine r_iconst X (1 : Int32) dX8_who_193 (by decide) ?_
                  refine m_join (P := SW Z 205 [(0, .ref b), (1, .int wh), (3, .int v), (5, .int (nI (if wh < (2 : Int32) then 3 + k else (if wh = (2 : Int32) then 9 + (8 * k) else (9 + (8 * k)) + 3)))), (7, .int y7), (9, .int y9)] [.int (if (1 : Int32) < wh then (1 : Int32) <<< (y9 &&& 31) else (0 : Int32)), .int y6] (ov h b (modL b lane many items spare stat tape taped fk fp mat mst tok mval (va_up Wv 2 (upd (Wv 2) (if wh < (2 : Int32) then 3 + k else (if wh = (2 : Int32) then 9 + (8 * k) else (9 + (8 * k)) + 3)) y9)) past nac imgs kept q2.2.1 q2.2.2.1 q2.2.2.2.1 q2.2.2.2.2.1 q2.2.2.2.2.2 mlo mal mpr lak trc ntr))) (fun K => ?_) ?_
                  · refine r_icmp_le X 204 dX8_who_194 rfl (fun c17 => ?_) (fun c17 => ?_)
                    · skip
                      refine r_iconst X (0 : Int32) dX8_who_204 (by decide) ?_
                      refine SW.pick [0, 1, 2, 3, 5, 7] [(0, .ref b), (1, .int wh), (3, .int v), (5, .int (nI (if wh < (2 : Int32) then 3 + k else (if wh = (2 : Int32) then 9 + (8 * k) else (9 + (8 * k)) + 3)))), (7, .int y7), (9, .int y9)] rfl ?_
                      try simp only [if_neg c17] at K ⊢
                      exact K
                    · skip
                      refine r_iconst X (1 : Int32) dX8_who_197 (by decide) ?_
                      refine r_iload X 7 dX8_who_198 rfl ?_
                      refine r_ishl X dX8_who_200 ?_
                      refine r_goto X 205 dX8_who_201 rfl ?_
                      refine SW.pick [0, 1, 2, 3, 5, 7] [(0, .ref b), (1, .int wh), (3, .int v), (5, .int (nI (if wh < (2 : Int32) then 3 + k else (if wh = (2 : Int32) then 9 + (8 * k) else (9 + (8 * k)) + 3)))), (7, .int y7), (9, .int y9)] rfl ?_
                      try simp only [if_pos c17] at K ⊢
                      exact K
                  have hv_b : isV (ov h b (modL b lane many items spare stat tape taped fk fp mat mst tok mval (va_up Wv 2 (upd (Wv 2) (if wh < (2 : Int32) then 3 + k else (if wh = (2 : Int32) then 9 + (8 * k) else (9 + (8 * k)) + 3)) y9)) past nac imgs kept q2.2.1 q2.2.2.1 q2.2.2.2.1 q2.2.2.2.2.1 q2.2.2.2.2.2 mlo mal mpr lak trc ntr)) b (modL b lane many items spare stat tape taped fk fp mat mst tok mval (va_up Wv 2 (upd (Wv 2) (if wh < (2 : Int32) then 3 + k else (if wh = (2 : Int32) then 9 + (8 * k) else (9 + (8 * k)) + 3)) y9)) past nac imgs kept q2.2.1 q2.2.2.1 q2.2.2.2.1 q2.2.2.2.2.1 q2.2.2.2.2.2 mlo mal mpr lak trc ntr) := ov_isV
                  refine r_ior X dX8_who_205 ?_
                  refine r_istore [(0, .ref b), (1, .int wh), (3, .int v), (5, .int (nI (if wh < (2 : Int32) then 3 + k else (if wh = (2 : Int32) then 9 + (8 * k) else (9 + (8 * k)) + 3)))), (6, .int (y6 ||| (if (1 : Int32) < wh then (1 : Int32) <<< (y9 &&& 31) else (0 : Int32)))), (7, .int y7), (9, .int y9)] X dX8_who_206 (by decide) rfl ?_
                  refine r_iinc [(0, .ref b), (1, .int wh), (3, .int v), (5, .int (nI (if wh < (2 : Int32) then 3 + k else (if wh = (2 : Int32) then 9 + (8 * k) else (9 + (8 * k)) + 3)))), (6, .int (y6 ||| (if (1 : Int32) < wh then (1 : Int32) <<< (y9 &&& 31) else (0 : Int32)))), (7, .int (y7 + (1 : Int32))), (9, .int y9)] X (y7 + (1 : Int32)) 5 dX8_who_208 rfl rfl (by decide) rfl ?_
                  refine r_iload X 6 dX8_who_211 rfl ?_
                  refine r_istore [(0, .ref b), (1, .int wh), (3, .int v), (5, .int (nI (if wh < (2 : Int32) then 3 + k else (if wh = (2 : Int32) then 9 + (8 * k) else (9 + (8 * k)) + 3)))), (6, .int (y6 ||| (if (1 : Int32) < wh then (1 : Int32) <<< (y9 &&& 31) else (0 : Int32)))), (7, .int (y7 + (1 : Int32))), (8, .int y9), (9, .int y9)] X dX8_who_213 (by decide) rfl ?_
                  try simp only [if_pos c16] at K ⊢
                  exact K
              have hv_b : isV (ov h b (modL b lane many items spare stat tape taped fk fp mat mst tok mval (va_up Wv 2 (upd (Wv 2) (if wh < (2 : Int32) then 3 + k else (if wh = (2 : Int32) then 9 + (8 * k) else (9 + (8 * k)) + 3)) y9)) past nac imgs kept q2.2.1 q2.2.2.1 q2.2.2.2.1 q2.2.2.2.2.1 q2.2.2.2.2.2 mlo mal mpr lak trc ntr)) b (modL b lane many items spare stat tape taped fk fp mat mst tok mval (va_up Wv 2 (upd (Wv 2) (if wh < (2 : Int32) then 3 + k else (if wh = (2 : Int32) then 9 + (8 * k) else (9 + (8 * k)) + 3)) y9)) past nac imgs kept q2.2.1 q2.2.2.1 q2.2.2.2.1 q2.2.2.2.2.1 q2.2.2.2.2.2 mlo mal mpr lak trc ntr) := ov_isV
              refine r_iinc [(0, .ref b), (1, .int wh), (3, .int v), (5, .int (nI (if wh < (2 : Int32) then 3 + k else (if wh = (2 : Int32) then 9 + (8 * k) else (9 + (8 * k)) + 3)))), (6, .int (if q2.1 = v then y6 ||| (if (1 : Int32) < wh then (1 : Int32) <<< (y9 &&& 31) else (0 : Int32)) else y6)), (7, .int (if q2.1 = v then y7 + (1 : Int32) else y7)), (8, .int (if q2.1 = v then y9 else y8)), (9, .int (y9 + (-1 : Int32)))] X (y9 + (-1 : Int32)) 7 dX8_who_215 rfl rfl (by decide) rfl ?_
              refine r_goto X 152 dX8_who_218 rfl ?_
              exact ih _ _ _ _ _ _ _ _ _ _ ⟨(tr_at ((pk_un (ne_of_3 (by decide) (who_pl hk).1)).trans hi.1)), (tr_at ((pk_un (ne_of_3 (by decide) (who_pl hk).1)).trans hi.2.1)), (its_back eyn hyn).1, (its_back eyn hyn).2.1⟩ (Nat.lt_of_lt_of_le (its_back eyn hyn).2.2 (Nat.le_of_lt_succ hm)) (by rw [hf]; exact K)
        refine wl14 62 (0 : Int32) (0 : Int32) (-1000000 : Int32) (if wh < (2 : Int32) then (60 : Int32) else if wh = (2 : Int32) then (5 : Int32) else (9 : Int32)) (va_up W 2 (f_copies (W 0) (W 2) 0 0)) gvn costs lst sets bst ⟨tr_at ((copies0 (by decide)).trans h0), tr_at ((copies0 (by decide)).trans h1), who_its, who_its2⟩ (Nat.lt_succ_of_le who_its) (fun hi => ?_)
        obtain ⟨q3, eq3⟩ : ∃ q, q = f_Model_who_L152 U Hh wh v (if wh < (2 : Int32) then 3 + k else (if wh = (2 : Int32) then 9 + (8 * k) else (9 + (8 * k)) + 3)) 62 (0 : Int32) (0 : Int32) (-1000000 : Int32) (if wh < (2 : Int32) then (60 : Int32) else if wh = (2 : Int32) then (5 : Int32) else (9 : Int32)) (va_up W 2 (f_copies (W 0) (W 2) 0 0)) gvn costs lst sets bst := ⟨_, rfl⟩
        rw [← eq3]
        rw [← eq3] at hf
        rw [lt_eq] at hf
        rw [← eq3] at hi
        have hv_b : isV (ov h b (modL b lane many items spare stat tape taped fk fp mat mst tok mval q3.2.2.2.2.1 past nac imgs kept q3.2.2.2.2.2.1 q3.2.2.2.2.2.2.1 q3.2.2.2.2.2.2.2.1 q3.2.2.2.2.2.2.2.2.1 q3.2.2.2.2.2.2.2.2.2 mlo mal mpr lak trc ntr)) b (modL b lane many items spare stat tape taped fk fp mat mst tok mval q3.2.2.2.2.1 past nac imgs kept q3.2.2.2.2.2.1 q3.2.2.2.2.2.2.1 q3.2.2.2.2.2.2.2.1 q3.2.2.2.2.2.2.2.2.1 q3.2.2.2.2.2.2.2.2.2 mlo mal mpr lak trc ntr) := ov_isV
        refine r_iload_n X 0 dX8_who_221 rfl ?_
        refine m_join (P := SW Z 242 [] [.int (if wh = (0 : Int32) then q3.2.1 else if wh = (1 : Int32) then q3.2.2.1 else q3.1)] (ov h b (modL b lane many items spare stat tape taped fk fp mat mst tok mval q3.2.2.2.2.1 past nac imgs kept q3.2.2.2.2.2.1 q3.2.2.2.2.2.2.1 q3.2.2.2.2.2.2.2.1 q3.2.2.2.2.2.2.2.2.1 q3.2.2.2.2.2.2.2.2.2 mlo mal mpr lak trc ntr))) (fun K => ?_) ?_
        · refine r_if_ne X 230 dX8_who_222 rfl (fun c18 => ?_) (fun c18 => ?_)
          · skip
            refine r_iload_n X 0 dX8_who_230 rfl ?_
            refine r_iconst X (1 : Int32) dX8_who_231 (by decide) ?_
            refine m_join (P := SW Z 242 [] [.int (if wh = (1 : Int32) then q3.2.2.1 else q3.1)] (ov h b (modL b lane many items spare stat tape taped fk fp mat mst tok mval q3.2.2.2.2.1 past nac imgs kept q3.2.2.2.2.2.1 q3.2.2.2.2.2.2.1 q3.2.2.2.2.2.2.2.1 q3.2.2.2.2.2.2.2.2.1 q3.2.2.2.2.2.2.2.2.2 mlo mal mpr lak trc ntr))) (fun K => ?_) ?_
            · refine r_icmp_ne X 240 dX8_who_232 rfl (fun c19 => ?_) (fun c19 => ?_)
              · skip
                refine r_iload X 1 dX8_who_240 rfl ?_
                refine SW.pick [] [] rfl ?_
                try simp only [if_neg c19] at K ⊢
                exact K
              · skip
                refine r_iload X 3 dX8_who_235 rfl ?_
                refine r_goto X 242 dX8_who_237 rfl ?_
                refine SW.pick [] [] rfl ?_
                try simp only [if_pos c19] at K ⊢
                exact K
            have hv_b : isV (ov h b (modL b lane many items spare stat tape taped fk fp mat mst tok mval q3.2.2.2.2.1 past nac imgs kept q3.2.2.2.2.2.1 q3.2.2.2.2.2.2.1 q3.2.2.2.2.2.2.2.1 q3.2.2.2.2.2.2.2.2.1 q3.2.2.2.2.2.2.2.2.2 mlo mal mpr lak trc ntr)) b (modL b lane many items spare stat tape taped fk fp mat mst tok mval q3.2.2.2.2.1 past nac imgs kept q3.2.2.2.2.2.1 q3.2.2.2.2.2.2.1 q3.2.2.2.2.2.2.2.1 q3.2.2.2.2.2.2.2.2.1 q3.2.2.2.2.2.2.2.2.2 mlo mal mpr lak trc ntr) := ov_isV
            try simp only [if_neg c18] at K ⊢
            exact K
          · skip
            refine r_iload X 2 dX8_who_225 rfl ?_
            refine r_goto X 242 dX8_who_227 rfl ?_
            refine SW.pick [] [] rfl ?_
            try simp only [if_pos c18] at K ⊢
            exact K
        have hv_b : isV (ov h b (modL b lane many items spare stat tape taped fk fp mat mst tok mval q3.2.2.2.2.1 past nac imgs kept q3.2.2.2.2.2.1 q3.2.2.2.2.2.2.1 q3.2.2.2.2.2.2.2.1 q3.2.2.2.2.2.2.2.2.1 q3.2.2.2.2.2.2.2.2.2 mlo mal mpr lak trc ntr)) b (modL b lane many items spare stat tape taped fk fp mat mst tok mval q3.2.2.2.2.1 past nac imgs kept q3.2.2.2.2.2.1 q3.2.2.2.2.2.2.1 q3.2.2.2.2.2.2.2.1 q3.2.2.2.2.2.2.2.2.1 q3.2.2.2.2.2.2.2.2.2 mlo mal mpr lak trc ntr) := ov_isV
        try subst hf
        exact r_ireturn X Y dX8_who_242 rfl rfl
      · rw [if_pos c6] at hf
        refine r_ldc X dX8_who_66 kk_X8_80 ?_
        try subst hf
        exact r_ireturn X Y dX8_who_68 rfl rfl
  · rw [if_pos c1] at hf
    refine r_ldc X dX8_who_7 kk_X8_223 ?_
    try subst hf
    exact r_ireturn X Y dX8_who_9 rfl rfl

theorem in1_nat {v : Int32} {H : Nat} (hH : H ≤ 6) (h : ¬ f_Model_in v 1 (nI H) = 0) : ∃ k, (1 ≤ k ∧ k ≤ H) ∧ v = nI k := by
  unfold f_Model_in at h
  by_cases c1 : v < (1 : Int32)
  · rw [if_pos c1] at h; exact absurd rfl h
  · rw [if_neg c1] at h
    by_cases c2 : nI H < v
    · rw [if_pos c2] at h; exact absurd rfl h
    · have h0 : ¬ v < 0 := fun q => c1 (by
        rw [Int32.lt_iff_toInt_lt] at q ⊢
        have e0 : (0 : Int32).toInt = 0 := by decide
        have e1 : (1 : Int32).toInt = 1 := by decide
        omega)
      obtain ⟨k, hk, rfl⟩ := le_nat h0 c2
      refine ⟨k, ⟨?_, hk⟩, rfl⟩
      rcases Nat.eq_zero_or_pos k with z | z
      · subst z; exact absurd (by decide) c1
      · exact z

def f_Model_fits_L127 (items : Nat → Int32) (sets : Nat → Int32) (n2 : Nat) (n3 : Nat) : Nat → Int32 → Nat → Int32 × Nat
  | 0, y6, y7 => (y6, y7)
  | n + 1, y6, y7 => (if (nI y7) < (nI n3) then (if y6 = (0 : Int32) then (y6, y7) else f_Model_fits_L127 items sets n2 n3 n (if (sets y7) = (items ((40 * n2) + y7)) then (1 : Int32) else (0 : Int32)) (y7 + 1)) else (y6, y7))
def f_Model_fits_L81s (items : Nat → Int32) (U : Nat) (Hh : Nat) (mm : Nat) (n1 : Nat) (n2 : Nat) (n3 : Nat) (n5 : Nat) (k81 : Nat) (x4 : Int32) (W : Nat → Nat → Int32) (gvn : Nat → Int32) (costs : Nat → Int32) (lst : Nat → Int32) (sets : Nat → Int32) (bst : Int32) : Int32 × (Nat → Nat → Int32) × (Nat → Int32) × (Nat → Int32) × (Nat → Int32) × (Nat → Int32) × Int32 := (lt_ (f_Model_bestCost (va_up W 2 (upd (W 2) (9 + (8 * n1)) (nI (n5 + k81)))) gvn costs lst sets (-1000000 : Int32) 2 U Hh) (fun q1 => (lt_ (f_Model_fits_L127 items q1.2.2.2.2.1 n2 n3 (mm + 1) (if q1.1 = (-1000000 : Int32) then (0 : Int32) else (1 : Int32)) 0) (fun q2 => (x4 ||| (if q2.1 = (0 : Int32) then (0 : Int32) else (1 : Int32) <<< ((nI (n5 + k81)) &&& 31)), va_up W 2 (upd (W 2) (9 + (8 * n1)) (nI (n5 + k81))), q1.2.1, q1.2.2.1, q1.2.2.2.1, q1.2.2.2.2.1, q1.2.2.2.2.2)))))
def f_Model_fits_L81 (items : Nat → Int32) (U : Nat) (Hh : Nat) (mm : Nat) (n1 : Nat) (n2 : Nat) (n3 : Nat) (n5 : Nat) (x4 : Int32) (W : Nat → Nat → Int32) (gvn : Nat → Int32) (costs : Nat → Int32) (lst : Nat → Int32) (sets : Nat → Int32) (bst : Int32) : Nat → Int32 × (Nat → Nat → Int32) × (Nat → Int32) × (Nat → Int32) × (Nat → Int32) × (Nat → Int32) × Int32
  | 0 => (x4, W, gvn, costs, lst, sets, bst)
  | k81 + 1 => f_Model_fits_L81s items U Hh mm n1 n2 n3 n5 k81 ((f_Model_fits_L81 items U Hh mm n1 n2 n3 n5 x4 W gvn costs lst sets bst k81).1) ((f_Model_fits_L81 items U Hh mm n1 n2 n3 n5 x4 W gvn costs lst sets bst k81).2.1) ((f_Model_fits_L81 items U Hh mm n1 n2 n3 n5 x4 W gvn costs lst sets bst k81).2.2.1) ((f_Model_fits_L81 items U Hh mm n1 n2 n3 n5 x4 W gvn costs lst sets bst k81).2.2.2.1) ((f_Model_fits_L81 items U Hh mm n1 n2 n3 n5 x4 W gvn costs lst sets bst k81).2.2.2.2.1) ((f_Model_fits_L81 items U Hh mm n1 n2 n3 n5 x4 W gvn costs lst sets bst k81).2.2.2.2.2.1) ((f_Model_fits_L81 items U Hh mm n1 n2 n3 n5 x4 W gvn costs lst sets bst k81).2.2.2.2.2.2)
theorem fits_w {items : Nat → Int32} {U : Nat} {Hh : Nat} {mm : Nat} {n1 : Nat} {n2 : Nat} {n3 : Nat} {n5 : Nat} {x4 : Int32} {W : Nat → Nat → Int32} {gvn : Nat → Int32} {costs : Nat → Int32} {lst : Nat → Int32} {sets : Nat → Int32} {bst : Int32} {j : Nat} (hj : j < 9) : ∀ k, (f_Model_fits_L81 items U Hh mm n1 n2 n3 n5 x4 W gvn costs lst sets bst k).2.1 2 j = W 2 j := by
  intro k
  induction k with
  | zero => rfl
  | succ k ih =>
    show va_up ((f_Model_fits_L81 items U Hh mm n1 n2 n3 n5 x4 W gvn costs lst sets bst k).2.1) 2 (upd ((f_Model_fits_L81 items U Hh mm n1 n2 n3 n5 x4 W gvn costs lst sets bst k).2.1 2) (9 + (8 * n1)) _) 2 j = _
    rw [vu_self, pk_un (by omega)]
    exact ih
def f_Model_fits (lane : Nat → Int32) (many : Nat → Nat) (items : Nat → Int32) (stat : Int32) (W : Nat → Nat → Int32) (gvn : Nat → Int32) (costs : Nat → Int32) (lst : Nat → Int32) (sets : Nat → Int32) (bst : Int32) (u : Int32) (row : Int32) (n : Int32) (U : Nat) (Hh : Nat) : Int32 × Int32 × (Nat → Nat → Int32) × (Nat → Int32) × (Nat → Int32) × (Nat → Int32) × (Nat → Int32) × Int32 := (if (f_Model_isUnit u U) = (0 : Int32) then ((-1000001 : Int32), stat, W, gvn, costs, lst, sets, bst) else (if (f_Model_isRow row) = (0 : Int32) then ((-1000001 : Int32), stat, W, gvn, costs, lst, sets, bst) else (if (f_Model_in n (1 : Int32) (nI Hh)) = (0 : Int32) then ((-1000001 : Int32), stat, W, gvn, costs, lst, sets, bst) else (if (f_Model_isMissing lane (row.toNatClampNeg)) = (0 : Int32) then (if (f_Model_isPart many (row.toNatClampNeg) (0 : Int32) (nI (n.toNatClampNeg))) = (0 : Int32) then (lt_ (f_Model_found (2 : Int32)) (fun q7 => (q7.1, q7.2, W, gvn, costs, lst, sets, bst))) else (lt_ (f_Model_fits_L81 items U Hh (n.toNatClampNeg) (u.toNatClampNeg) (row.toNatClampNeg) (n.toNatClampNeg) 1 (0 : Int32) (va_up W 2 (f_copies (W 0) (W 2) 0 0)) gvn costs lst sets bst (6 - 1)) (fun q5 => (lt_ (f_Model_well q5.1) (fun q6 => (q6.1, q6.2, q5.2.1, q5.2.2.1, q5.2.2.2.1, q5.2.2.2.2.1, q5.2.2.2.2.2.1, q5.2.2.2.2.2.2)))))) else (lt_ (f_Model_found (1 : Int32)) (fun q8 => (q8.1, q8.2, W, gvn, costs, lst, sets, bst)))))))
set_option maxRecDepth 20000 in
set_option maxHeartbeats 4000000 in
theorem c_Model_fits {G : mG} {h : mHp} {b : Nat} {lane : Nat → Int32} {many : Nat → Nat} {items : Nat → Int32} {spare : Nat → Int32} {stat : Int32} {tape : Nat → Int32} {taped : Nat} {fk : Int32} {fp : Int32} {mat : Nat} {mst : Nat} {tok : Int32} {mval : Int32} {W : Nat → Nat → Int32} {past : Nat → Int32} {nac : Nat} {imgs : Nat → Int32} {kept : Nat → Int32} {gvn : Nat → Int32} {costs : Nat → Int32} {lst : Nat → Int32} {sets : Nat → Int32} {bst : Int32} {mlo : Int64} {mal : Int32} {mpr : Nat → Int64} {lak : Nat → Int64} {trc : Nat → Int32} {ntr : Nat} {u : Int32} {row : Int32} {n : Int32} {U : Nat} {Hh : Nat}   (h0 : W 0 0 = nI U) (hU : U ≤ 4) (h1 : W 0 1 = nI Hh) (hH : Hh ≤ 6) (hm : ∀ j, j < 8 → many j ≤ 40) : Ret G 7 mX8_fits [.ref b, .int u, .int row, .int n] (ov h b (modL b lane many items spare stat tape taped fk fp mat mst tok mval W past nac imgs kept gvn costs lst sets bst mlo mal mpr lak trc ntr)) (some (.int (f_Model_fits lane many items stat W gvn costs lst sets bst u row n U Hh).1)) (ov h b (modL b lane many items spare (f_Model_fits lane many items stat W gvn costs lst sets bst u row n U Hh).2.1 tape taped fk fp mat mst tok mval (f_Model_fits lane many items stat W gvn costs lst sets bst u row n U Hh).2.2.1 past nac imgs kept (f_Model_fits lane many items stat W gvn costs lst sets bst u row n U Hh).2.2.2.1 (f_Model_fits lane many items stat W gvn costs lst sets bst u row n U Hh).2.2.2.2.1 (f_Model_fits lane many items stat W gvn costs lst sets bst u row n U Hh).2.2.2.2.2.1 (f_Model_fits lane many items stat W gvn costs lst sets bst u row n U Hh).2.2.2.2.2.2.1 (f_Model_fits lane many items stat W gvn costs lst sets bst u row n U Hh).2.2.2.2.2.2.2 mlo mal mpr lak trc ntr)) := by
  generalize hf : f_Model_fits lane many items stat W gvn costs lst sets bst u row n U Hh = R
  unfold f_Model_fits at hf
  refine Ret.of [(0, .ref b), (1, .int u), (2, .int row), (3, .int n)] (by decide) (Nat.le_of_ble_eq_true rfl) rfl ?_
  rintro Z rfl X Y
  have hv_b : isV (ov h b (modL b lane many items spare stat tape taped fk fp mat mst tok mval W past nac imgs kept gvn costs lst sets bst mlo mal mpr lak trc ntr)) b (modL b lane many items spare stat tape taped fk fp mat mst tok mval W past nac imgs kept gvn costs lst sets bst mlo mal mpr lak trc ntr) := ov_isV
  refine r_aload_n X 0 dX8_fits_0 rfl ?_
  refine r_iload_n X 1 dX8_fits_1 rfl ?_
  refine cl_X8_220 X (by decide) dX8_fits_2 (Nat.le_of_ble_eq_true rfl) (hv_b 0 _ rfl) (c_Model_isUnit hv_b (by first | assumption | omega) (by first | assumption | omega)) ?_
  refine r_if_eq X 29 dX8_fits_5 rfl (fun cu => ?_) (fun cu => ?_)
  · rw [if_pos cu] at hf
    refine r_ldc X dX8_fits_29 kk_X8_80 ?_
    try subst hf
    exact r_ireturn X Y dX8_fits_31 rfl rfl
  · rw [if_neg cu] at hf
    obtain ⟨k, hk, rfl⟩ := isUnit_nat hU cu
    try simp only [nI_clamp (show k < 2 ^ 31 by omega)] at hf
    refine r_iload_n X 2 dX8_fits_8 rfl ?_
    refine cl_X8_76 X (by decide) dX8_fits_9 (Nat.le_of_ble_eq_true rfl) (c_Model_isRow  ) ?_
    refine r_if_eq X 29 dX8_fits_12 rfl (fun cr => ?_) (fun cr => ?_)
    · rw [if_pos cr] at hf
      refine r_ldc X dX8_fits_29 kk_X8_80 ?_
      try subst hf
      exact r_ireturn X Y dX8_fits_31 rfl rfl
    · rw [if_neg cr] at hf
      obtain ⟨r, hr, rfl⟩ := isRow_nat cr
      try simp only [nI_clamp (show r < 2 ^ 31 by omega)] at hf
      refine r_iload_n X 3 dX8_fits_15 rfl ?_
      refine r_iconst X (1 : Int32) dX8_fits_16 (by decide) ?_
      refine r_aload_n X 0 dX8_fits_17 rfl ?_
      refine gf_X8_25 X dX8_fits_18 (hv_b 0 _ rfl) rfl ?_
      refine r_iconst X (1 : Int32) dX8_fits_21 (by decide) ?_
      refine r_ialdv X (v := nI Hh) (k0 := 1) dX8_fits_22 (hv_b (6 + 0) _ (modL_W (by omega))) (by omega) (by decide) h1 ?_
      refine cl_X8_72 X (by decide) dX8_fits_23 (Nat.le_of_ble_eq_true rfl) (c_Model_in  ) ?_
      refine r_if_ne X 32 dX8_fits_26 rfl (fun cn => ?_) (fun cn => ?_)
      · rw [if_neg cn] at hf
        obtain ⟨mm, hmm, rfl⟩ := in1_nat hH cn
        try simp only [nI_clamp (show mm < 2 ^ 31 by omega)] at hf
        refine r_aload_n X 0 dX8_fits_32 rfl ?_
        refine r_iload_n X 2 dX8_fits_33 rfl ?_
        refine cl_X8_88 X (by decide) dX8_fits_34 (Nat.le_of_ble_eq_true rfl) (hv_b 0 _ rfl) (c_Model_isMissing hv_b (by first | assumption | omega)) ?_
        refine r_if_eq X 46 dX8_fits_37 rfl (fun c1 => ?_) (fun c1 => ?_)
        · rw [if_pos c1] at hf
          refine r_aload_n X 0 dX8_fits_46 rfl ?_
          refine r_iload_n X 2 dX8_fits_47 rfl ?_
          refine r_iconst X (0 : Int32) dX8_fits_48 (by decide) ?_
          refine r_iload_n X 3 dX8_fits_49 rfl ?_
          refine cl_X8_95 X (by decide) dX8_fits_50 (Nat.le_of_ble_eq_true rfl) (hv_b 0 _ rfl) (c_Model_isPart hv_b (by first | assumption | omega)) ?_
          refine r_if_ne X 62 dX8_fits_53 rfl (fun c2 => ?_) (fun c2 => ?_)
          · rw [if_neg c2] at hf
            refine r_aload_n X 0 dX8_fits_62 rfl ?_
            refine gf_X8_25 X dX8_fits_63 (hv_b 0 _ rfl) rfl ?_
            refine r_iconst X (0 : Int32) dX8_fits_66 (by decide) ?_
            refine r_aload_n X 0 dX8_fits_67 rfl ?_
            refine gf_X8_31 X dX8_fits_68 (hv_b 0 _ rfl) rfl ?_
            refine r_iconst X (0 : Int32) dX8_fits_71 (by decide) ?_
            refine cl_X8_154 X (by decide) dX8_fits_72 (Nat.le_of_ble_eq_true rfl) (c_copies_up (a := 0) (c := 0) (hv_b (6 + 0) _ (modL_W (by omega))) (hv_b (6 + 2) _ (modL_W (by omega))) (by omega) (by omega) (by omega)) ?_
            refine SW.heq (h2 := (ov h b (modL b lane many items spare stat tape taped fk fp mat mst tok mval (va_up W 2 (f_copies (W 0) (W 2) 0 0)) past nac imgs kept gvn costs lst sets bst mlo mal mpr lak trc ntr))) (ov_up (6 + 2) (show _ < 19 by omega) (modL_Wset (by omega))) ?_
            have hv_b : isV (ov h b (modL b lane many items spare stat tape taped fk fp mat mst tok mval (va_up W 2 (f_copies (W 0) (W 2) 0 0)) past nac imgs kept gvn costs lst sets bst mlo mal mpr lak trc ntr)) b (modL b lane many items spare stat tape taped fk fp mat mst tok mval (va_up W 2 (f_copies (W 0) (W 2) 0 0)) past nac imgs kept gvn costs lst sets bst mlo mal mpr lak trc ntr) := ov_isV
            refine r_iconst X (0 : Int32) dX8_fits_75 (by decide) ?_
            refine r_istore [(0, .ref b), (1, .int (nI k)), (2, .int (nI r)), (3, .int (nI mm)), (4, .int (0 : Int32))] X dX8_fits_76 (by decide) rfl ?_
            refine r_iconst X (1 : Int32) dX8_fits_78 (by decide) ?_
            refine r_istore [(0, .ref b), (1, .int (nI k)), (2, .int (nI r)), (3, .int (nI mm)), (4, .int (0 : Int32)), (5, .int (1 : Int32))] X dX8_fits_79 (by decide) rfl ?_
            refine loop_up (P := fun k10 => SW Z 81 [(0, .ref b), (1, .int (nI k)), (2, .int (nI r)), (3, .int (nI mm)), (4, .int ((f_Model_fits_L81 items U Hh mm k r mm 1 (0 : Int32) (va_up W 2 (f_copies (W 0) (W 2) 0 0)) gvn costs lst sets bst k10).1)), (5, .int (nI (1 + k10)))] [] (ov h b (modL b lane many items spare stat tape taped fk fp mat mst tok mval ((f_Model_fits_L81 items U Hh mm k r mm 1 (0 : Int32) (va_up W 2 (f_copies (W 0) (W 2) 0 0)) gvn costs lst sets bst k10).2.1) past nac imgs kept ((f_Model_fits_L81 items U Hh mm k r mm 1 (0 : Int32) (va_up W 2 (f_copies (W 0) (W 2) 0 0)) gvn costs lst sets bst k10).2.2.1) ((f_Model_fits_L81 items U Hh mm k r mm 1 (0 : Int32) (va_up W 2 (f_copies (W 0) (W 2) 0 0)) gvn costs lst sets bst k10).2.2.2.1) ((f_Model_fits_L81 items U Hh mm k r mm 1 (0 : Int32) (va_up W 2 (f_copies (W 0) (W 2) 0 0)) gvn costs lst sets bst k10).2.2.2.2.1) ((f_Model_fits_L81 items U Hh mm k r mm 1 (0 : Int32) (va_up W 2 (f_copies (W 0) (W 2) 0 0)) gvn costs lst sets bst k10).2.2.2.2.2.1) ((f_Model_fits_L81 items U Hh mm k r mm 1 (0 : Int32) (va_up W 2 (f_copies (W 0) (W 2) 0 0)) gvn costs lst sets bst k10).2.2.2.2.2.2) mlo mal mpr lak trc ntr))) (6 - 1) ?_ ?_ 0 (Nat.zero_le _)
            rotate_left
            · intro k10 hk10 ih
              have hv_b : isV (ov h b (modL b lane many items spare stat tape taped fk fp mat mst tok mval ((f_Model_fits_L81 items U Hh mm k r mm 1 (0 : Int32) (va_up W 2 (f_copies (W 0) (W 2) 0 0)) gvn costs lst sets bst k10).2.1) past nac imgs kept ((f_Model_fits_L81 items U Hh mm k r mm 1 (0 : Int32) (va_up W 2 (f_copies (W 0) (W 2) 0 0)) gvn costs lst sets bst k10).2.2.1) ((f_Model_fits_L81 items U Hh mm k r mm 1 (0 : Int32) (va_up W 2 (f_copies (W 0) (W 2) 0 0)) gvn costs lst sets bst k10).2.2.2.1) ((f_Model_fits_L81 items U Hh mm k r mm 1 (0 : Int32) (va_up W 2 (f_copies (W 0) (W 2) 0 0)) gvn costs lst sets bst k10).2.2.2.2.1) ((f_Model_fits_L81 items U Hh mm k r mm 1 (0 : Int32) (va_up W 2 (f_copies (W 0) (W 2) 0 0)) gvn costs lst sets bst k10).2.2.2.2.2.1) ((f_Model_fits_L81 items U Hh mm k r mm 1 (0 : Int32) (va_up W 2 (f_copies (W 0) (W 2) 0 0)) gvn costs lst sets bst k10).2.2.2.2.2.2) mlo mal mpr lak trc ntr)) b (modL b lane many items spare stat tape taped fk fp mat mst tok mval ((f_Model_fits_L81 items U Hh mm k r mm 1 (0 : Int32) (va_up W 2 (f_copies (W 0) (W 2) 0 0)) gvn costs lst sets bst k10).2.1) past nac imgs kept ((f_Model_fits_L81 items U Hh mm k r mm 1 (0 : Int32) (va_up W 2 (f_copies (W 0) (W 2) 0 0)) gvn costs lst sets bst k10).2.2.1) ((f_Model_fits_L81 items U Hh mm k r mm 1 (0 : Int32) (va_up W 2 (f_copies (W 0) (W 2) 0 0)) gvn costs lst sets bst k10).2.2.2.1) ((f_Model_fits_L81 items U Hh mm k r mm 1 (0 : Int32) (va_up W 2 (f_copies (W 0) (W 2) 0 0)) gvn costs lst sets bst k10).2.2.2.2.1) ((f_Model_fits_L81 items U Hh mm k r mm 1 (0 : Int32) (va_up W 2 (f_copies (W 0) (W 2) 0 0)) gvn costs lst sets bst k10).2.2.2.2.2.1) ((f_Model_fits_L81 items U Hh mm k r mm 1 (0 : Int32) (va_up W 2 (f_copies (W 0) (W 2) 0 0)) gvn costs lst sets bst k10).2.2.2.2.2.2) mlo mal mpr lak trc ntr) := ov_isV
              have hw0 : (f_Model_fits_L81 items U Hh mm k r mm 1 (0 : Int32) (va_up W 2 (f_copies (W 0) (W 2) 0 0)) gvn costs lst sets bst k10).2.1 2 0 = nI U := (fits_w (by decide) _).trans (tr_at ((copies0 (by decide)).trans h0))
              have hw1 : (f_Model_fits_L81 items U Hh mm k r mm 1 (0 : Int32) (va_up W 2 (f_copies (W 0) (W 2) 0 0)) gvn costs lst sets bst k10).2.1 2 1 = nI Hh := (fits_w (by decide) _).trans (tr_at ((copies0 (by decide)).trans h1))
              refine r_iload X 5 dX8_fits_81 rfl ?_
              refine r_bipush X (6 : Int32) dX8_fits_83 (by decide) ?_
              refine r_icmp_ge X 197 dX8_fits_85 rfl (fun z => absurd (nI_lt (a := 1 + k10) (b := 6) (by omega) (by omega)) z) (fun _ => ?_)
              refine r_aload_n X 0 dX8_fits_88 rfl ?_
              refine gf_X8_31 X dX8_fits_89 (hv_b 0 _ rfl) rfl ?_
              refine r_bipush X (9 : Int32) dX8_fits_92 (by decide) ?_
              refine r_bipush X (8 : Int32) dX8_fits_94 (by decide) ?_
              refine r_iload_n X 1 dX8_fits_96 rfl ?_
              refine r_imuln X (a := 8) (b := k) dX8_fits_97 ?_
              refine r_iaddn X (a := 9) (b := 8 * k) dX8_fits_98 ?_
              refine r_iload X 5 dX8_fits_99 rfl ?_
              refine r_iastn X (k0 := 9 + (8 * k)) dX8_fits_101 (hv_b (6 + 2) _ (modL_W (by omega))) (by omega) (by first | decide | omega) ?_
              refine SW.heq (h2 := (ov h b (modL b lane many items spare stat tape taped fk fp mat mst tok mval (va_up ((f_Model_fits_L81 items U Hh mm k r mm 1 (0 : Int32) (va_up W 2 (f_copies (W 0) (W 2) 0 0)) gvn costs lst sets bst k10).2.1) 2 (upd (((f_Model_fits_L81 items U Hh mm k r mm 1 (0 : Int32) (va_up W 2 (f_copies (W 0) (W 2) 0 0)) gvn costs lst sets bst k10).2.1) 2) (9 + (8 * k)) (nI (1 + k10)))) past nac imgs kept ((f_Model_fits_L81 items U Hh mm k r mm 1 (0 : Int32) (va_up W 2 (f_copies (W 0) (W 2) 0 0)) gvn costs lst sets bst k10).2.2.1) ((f_Model_fits_L81 items U Hh mm k r mm 1 (0 : Int32) (va_up W 2 (f_copies (W 0) (W 2) 0 0)) gvn costs lst sets bst k10).2.2.2.1) ((f_Model_fits_L81 items U Hh mm k r mm 1 (0 : Int32) (va_up W 2 (f_copies (W 0) (W 2) 0 0)) gvn costs lst sets bst k10).2.2.2.2.1) ((f_Model_fits_L81 items U Hh mm k r mm 1 (0 : Int32) (va_up W 2 (f_copies (W 0) (W 2) 0 0)) gvn costs lst sets bst k10).2.2.2.2.2.1) ((f_Model_fits_L81 items U Hh mm k r mm 1 (0 : Int32) (va_up W 2 (f_copies (W 0) (W 2) 0 0)) gvn costs lst sets bst k10).2.2.2.2.2.2) mlo mal mpr lak trc ntr))) (ov_up (6 + 2) (show _ < 19 by omega) (modL_Wset (by omega))) ?_
              have hv_b : isV (ov h b (modL b lane many items spare stat tape taped fk fp mat mst tok mval (va_up ((f_Model_fits_L81 items U Hh mm k r mm 1 (0 : Int32) (va_up W 2 (f_copies (W 0) (W 2) 0 0)) gvn costs lst sets bst k10).2.1) 2 (upd (((f_Model_fits_L81 items U Hh mm k r mm 1 (0 : Int32) (va_up W 2 (f_copies (W 0) (W 2) 0 0)) gvn costs lst sets bst k10).2.1) 2) (9 + (8 * k)) (nI (1 + k10)))) past nac imgs kept ((f_Model_fits_L81 items U Hh mm k r mm 1 (0 : Int32) (va_up W 2 (f_copies (W 0) (W 2) 0 0)) gvn costs lst sets bst k10).2.2.1) ((f_Model_fits_L81 items U Hh mm k r mm 1 (0 : Int32) (va_up W 2 (f_copies (W 0) (W 2) 0 0)) gvn costs lst sets bst k10).2.2.2.1) ((f_Model_fits_L81 items U Hh mm k r mm 1 (0 : Int32) (va_up W 2 (f_copies (W 0) (W 2) 0 0)) gvn costs lst sets bst k10).2.2.2.2.1) ((f_Model_fits_L81 items U Hh mm k r mm 1 (0 : Int32) (va_up W 2 (f_copies (W 0) (W 2) 0 0)) gvn costs lst sets bst k10).2.2.2.2.2.1) ((f_Model_fits_L81 items U Hh mm k r mm 1 (0 : Int32) (va_up W 2 (f_copies (W 0) (W 2) 0 0)) gvn costs lst sets bst k10).2.2.2.2.2.2) mlo mal mpr lak trc ntr)) b (modL b lane many items spare stat tape taped fk fp mat mst tok mval (va_up ((f_Model_fits_L81 items U Hh mm k r mm 1 (0 : Int32) (va_up W 2 (f_copies (W 0) (W 2) 0 0)) gvn costs lst sets bst k10).2.1) 2 (upd (((f_Model_fits_L81 items U Hh mm k r mm 1 (0 : Int32) (va_up W 2 (f_copies (W 0) (W 2) 0 0)) gvn costs lst sets bst k10).2.1) 2) (9 + (8 * k)) (nI (1 + k10)))) past nac imgs kept ((f_Model_fits_L81 items U Hh mm k r mm 1 (0 : Int32) (va_up W 2 (f_copies (W 0) (W 2) 0 0)) gvn costs lst sets bst k10).2.2.1) ((f_Model_fits_L81 items U Hh mm k r mm 1 (0 : Int32) (va_up W 2 (f_copies (W 0) (W 2) 0 0)) gvn costs lst sets bst k10).2.2.2.1) ((f_Model_fits_L81 items U Hh mm k r mm 1 (0 : Int32) (va_up W 2 (f_copies (W 0) (W 2) 0 0)) gvn costs lst sets bst k10).2.2.2.2.1) ((f_Model_fits_L81 items U Hh mm k r mm 1 (0 : Int32) (va_up W 2 (f_copies (W 0) (W 2) 0 0)) gvn costs lst sets bst k10).2.2.2.2.2.1) ((f_Model_fits_L81 items U Hh mm k r mm 1 (0 : Int32) (va_up W 2 (f_copies (W 0) (W 2) 0 0)) gvn costs lst sets bst k10).2.2.2.2.2.2) mlo mal mpr lak trc ntr) := ov_isV
              refine r_aload_n X 0 dX8_fits_102 rfl ?_
              refine r_aload_n X 0 dX8_fits_103 rfl ?_
              refine gf_X8_31 X dX8_fits_104 (hv_b 0 _ rfl) rfl ?_
              refine r_ldc X dX8_fits_107 kk_X8_66 ?_
              refine cl_X8_230 X (by decide) dX8_fits_109 (Nat.le_of_ble_eq_true rfl) (hv_b 0 _ rfl) (c_Model_bestCost  (by first | assumption | omega) (tr_at ((pk_un (by omega)).trans hw0)) (by first | assumption | omega) (tr_at ((pk_un (by omega)).trans hw1)) (by first | assumption | omega)) ?_
              obtain ⟨q3, eq3⟩ : ∃ q, q = f_Model_bestCost (va_up ((f_Model_fits_L81 items U Hh mm k r mm 1 (0 : Int32) (va_up W 2 (f_copies (W 0) (W 2) 0 0)) gvn costs lst sets bst k10).2.1) 2 (upd (((f_Model_fits_L81 items U Hh mm k r mm 1 (0 : Int32) (va_up W 2 (f_copies (W 0) (W 2) 0 0)) gvn costs lst sets bst k10).2.1) 2) (9 + (8 * k)) (nI (1 + k10)))) ((f_Model_fits_L81 items U Hh mm k r mm 1 (0 : Int32) (va_up W 2 (f_copies (W 0) (W 2) 0 0)) gvn costs lst sets bst k10).2.2.1) ((f_Model_fits_L81 items U Hh mm k r mm 1 (0 : Int32) (va_up W 2 (f_copies (W 0) (W 2) 0 0)) gvn costs lst sets bst k10).2.2.2.1) ((f_Model_fits_L81 items U Hh mm k r mm 1 (0 : Int32) (va_up W 2 (f_copies (W 0) (W 2) 0 0)) gvn costs lst sets bst k10).2.2.2.2.1) ((f_Model_fits_L81 items U Hh mm k r mm 1 (0 : Int32) (va_up W 2 (f_copies (W 0) (W 2) 0 0)) gvn costs lst sets bst k10).2.2.2.2.2.1) (-1000000 : Int32) 2 U Hh := ⟨_, rfl⟩
              rw [← eq3]
              have hv_b : isV (ov h b (modL b lane many items spare stat tape taped fk fp mat mst tok mval (va_up ((f_Model_fits_L81 items U Hh mm k r mm 1 (0 : Int32) (va_up W 2 (f_copies (W 0) (W 2) 0 0)) gvn costs lst sets bst k10).2.1) 2 (upd (((f_Model_fits_L81 items U Hh mm k r mm 1 (0 : Int32) (va_up W 2 (f_copies (W 0) (W 2) 0 0)) gvn costs lst sets bst k10).2.1) 2) (9 + (8 * k)) (nI (1 + k10)))) past nac imgs kept q3.2.1 q3.2.2.1 q3.2.2.2.1 q3.2.2.2.2.1 q3.2.2.2.2.2 mlo mal mpr lak trc ntr)) b (modL b lane many items spare stat tape taped fk fp mat mst tok mval (va_up ((f_Model_fits_L81 items U Hh mm k r mm 1 (0 : Int32) (va_up W 2 (f_copies (W 0) (W 2) 0 0)) gvn costs lst sets bst k10).2.1) 2 (upd (((f_Model_fits_L81 items U Hh mm k r mm 1 (0 : Int32) (va_up W 2 (f_copies (W 0) (W 2) 0 0)) gvn costs lst sets bst k10).2.1) 2) (9 + (8 * k)) (nI (1 + k10)))) past nac imgs kept q3.2.1 q3.2.2.1 q3.2.2.2.1 q3.2.2.2.2.1 q3.2.2.2.2.2 mlo mal mpr lak trc ntr) := ov_isV
              refine r_ldc X dX8_fits_112 kk_X8_66 ?_
              refine m_join (P := SW Z 122 [(0, .ref b), (1, .int (nI k)), (2, .int (nI r)), (3, .int (nI mm)), (4, .int ((f_Model_fits_L81 items U Hh mm k r mm 1 (0 : Int32) (va_up W 2 (f_copies (W 0) (W 2) 0 0)) gvn costs lst sets bst k10).1)), (5, .int (nI (1 + k10)))] [.int (if q3.1 = (-1000000 : Int32) then (0 : Int32) else (1 : Int32))] (ov h b (modL b lane many items spare stat tape taped fk fp mat mst tok mval (va_up ((f_Model_fits_L81 items U Hh mm k r mm 1 (0 : Int32) (va_up W 2 (f_copies (W 0) (W 2) 0 0)) gvn costs lst sets bst k10).2.1) 2 (upd (((f_Model_fits_L81 items U Hh mm k r mm 1 (0 : Int32) (va_up W 2 (f_copies (W 0) (W 2) 0 0)) gvn costs lst sets bst k10).2.1) 2) (9 + (8 * k)) (nI (1 + k10)))) past nac imgs kept q3.2.1 q3.2.2.1 q3.2.2.2.1 q3.2.2.2.2.1 q3.2.2.2.2.2 mlo mal mpr lak trc ntr))) (fun K => ?_) ?_
              · refine r_icmp_eq X 121 dX8_fits_114 rfl (fun c11 => ?_) (fun c11 => ?_)
                · skip
                  refine r_iconst X (0 : Int32) dX8_fits_121 (by decide) ?_
                  try simp only [if_pos c11] at K ⊢
                  exact K
                · skip
                  refine r_iconst X (1 : Int32) dX8_fits_117 (by decide) ?_
                  refine r_goto X 122 dX8_fits_118 rfl ?_
                  try simp only [if_neg c11] at K ⊢
                  exact K
              have hv_b : isV (ov h b (modL b lane many items spare stat tape taped fk fp mat mst tok mval (va_up ((f_Model_fits_L81 items U Hh mm k r mm 1 (0 : Int32) (va_up W 2 (f_copies (W 0) (W 2) 0 0)) gvn costs lst sets bst k10).2.1) 2 (upd (((f_Model_fits_L81 items U Hh mm k r mm 1 (0 : Int32) (va_up W 2 (f_copies (W 0) (W 2) 0 0)) gvn costs lst sets bst k10).2.1) 2) (9 + (8 * k)) (nI (1 + k10)))) past nac imgs kept q3.2.1 q3.2.2.1 q3.2.2.2.1 q3.2.2.2.2.1 q3.2.2.2.2.2 mlo mal mpr lak trc ntr)) b (modL b lane many items spare stat tape taped fk fp mat mst tok mval (va_up ((f_Model_fits_L81 items U Hh mm k r mm 1 (0 : Int32) (va_up W 2 (f_copies (W 0) (W 2) 0 0)) gvn costs lst sets bst k10).2.1) 2 (upd (((f_Model_fits_L81 items U Hh mm k r mm 1 (0 : Int32) (va_up W 2 (f_copies (W 0) (W 2) 0 0)) gvn costs lst sets bst k10).2.1) 2) (9 + (8 * k)) (nI (1 + k10)))) past nac imgs kept q3.2.1 q3.2.2.1 q3.2.2.2.1 q3.2.2.2.2.1 q3.2.2.2.2.2 mlo mal mpr lak trc ntr) := ov_isV
              refine r_istore [(0, .ref b), (1, .int (nI k)), (2, .int (nI r)), (3, .int (nI mm)), (4, .int ((f_Model_fits_L81 items U Hh mm k r mm 1 (0 : Int32) (va_up W 2 (f_copies (W 0) (W 2) 0 0)) gvn costs lst sets bst k10).1)), (5, .int (nI (1 + k10))), (6, .int (if q3.1 = (-1000000 : Int32) then (0 : Int32) else (1 : Int32)))] X dX8_fits_122 (by decide) rfl ?_
              refine r_iconst X (0 : Int32) dX8_fits_124 (by decide) ?_
              refine r_istore [(0, .ref b), (1, .int (nI k)), (2, .int (nI r)), (3, .int (nI mm)), (4, .int ((f_Model_fits_L81 items U Hh mm k r mm 1 (0 : Int32) (va_up W 2 (f_copies (W 0) (W 2) 0 0)) gvn costs lst sets bst k10).1)), (5, .int (nI (1 + k10))), (6, .int (if q3.1 = (-1000000 : Int32) then (0 : Int32) else (1 : Int32))), (7, .int (0 : Int32))] X dX8_fits_125 (by decide) rfl ?_
              have wl12 : ∀ (n_ : Nat) (y6 : Int32) (y7 : Nat), (y7 ≤ mm) → (mm - y7) < n_ → ((((f_Model_fits_L127 items q3.2.2.2.2.1 r mm n_ y6 y7).2) ≤ mm) → SW Z 173 [(0, .ref b), (1, .int (nI k)), (2, .int (nI r)), (3, .int (nI mm)), (4, .int ((f_Model_fits_L81 items U Hh mm k r mm 1 (0 : Int32) (va_up W 2 (f_copies (W 0) (W 2) 0 0)) gvn costs lst sets bst k10).1)), (5, .int (nI (1 + k10))), (6, .int ((f_Model_fits_L127 items q3.2.2.2.2.1 r mm n_ y6 y7).1))] [] (ov h b (modL b lane many items spare stat tape taped fk fp mat mst tok mval (va_up ((f_Model_fits_L81 items U Hh mm k r mm 1 (0 : Int32) (va_up W 2 (f_copies (W 0) (W 2) 0 0)) gvn costs lst sets bst k10).2.1) 2 (upd (((f_Model_fits_L81 items U Hh mm k r mm 1 (0 : Int32) (va_up W 2 (f_copies (W 0) (W 2) 0 0)) gvn costs lst sets bst k10).2.1) 2) (9 + (8 * k)) (nI (1 + k10)))) past nac imgs kept q3.2.1 q3.2.2.1 q3.2.2.2.1 q3.2.2.2.2.1 q3.2.2.2.2.2 mlo mal mpr lak trc ntr))) → SW Z 127 [(0, .ref b), (1, .int (nI k)), (2, .int (nI r)), (3, .int (nI mm)), (4, .int ((f_Model_fits_L81 items U Hh mm k r mm 1 (0 : Int32) (va_up W 2 (f_copies (W 0) (W 2) 0 0)) gvn costs lst sets bst k10).1)), (5, .int (nI (1 + k10))), (6, .int y6), (7, .int (nI y7))] [] (ov h b (modL b lane many items spare stat tape taped fk fp mat mst tok mval (va_up ((f_Model_fits_L81 items U Hh mm k r mm 1 (0 : Int32) (va_up W 2 (f_copies (W 0) (W 2) 0 0)) gvn costs lst sets bst k10).2.1) 2 (upd (((f_Model_fits_L81 items U Hh mm k r mm 1 (0 : Int32) (va_up W 2 (f_copies (W 0) (W 2) 0 0)) gvn costs lst sets bst k10).2.1) 2) (9 + (8 * k)) (nI (1 + k10)))) past nac imgs kept q3.2.1 q3.2.2.1 q3.2.2.2.1 q3.2.2.2.2.1 q3.2.2.2.2.2 mlo mal mpr lak trc ntr)) := by
                intro n_
                induction n_ with
                | zero => intro y6 y7 _ hm; exact absurd hm (Nat.not_lt_zero _)
                | succ n_ ih =>
                  intro y6 y7 hi hm K
                  generalize hf : f_Model_fits_L127 items q3.2.2.2.2.1 r mm (n_ + 1) y6 y7 = Rl at K
                  rw [f_Model_fits_L127] at hf
                  have hv_b : isV (ov h b (modL b lane many items spare stat tape taped fk fp mat mst tok mval (va_up ((f_Model_fits_L81 items U Hh mm k r mm 1 (0 : Int32) (va_up W 2 (f_copies (W 0) (W 2) 0 0)) gvn costs lst sets bst k10).2.1) 2 (upd (((f_Model_fits_L81 items U Hh mm k r mm 1 (0 : Int32) (va_up W 2 (f_copies (W 0) (W 2) 0 0)) gvn costs lst sets bst k10).2.1) 2) (9 + (8 * k)) (nI (1 + k10)))) past nac imgs kept q3.2.1 q3.2.2.1 q3.2.2.2.1 q3.2.2.2.2.1 q3.2.2.2.2.2 mlo mal mpr lak trc ntr)) b (modL b lane many items spare stat tape taped fk fp mat mst tok mval (va_up ((f_Model_fits_L81 items U Hh mm k r mm 1 (0 : Int32) (va_up W 2 (f_copies (W 0) (W 2) 0 0)) gvn costs lst sets bst k10).2.1) 2 (upd (((f_Model_fits_L81 items U Hh mm k r mm 1 (0 : Int32) (va_up W 2 (f_copies (W 0) (W 2) 0 0)) gvn costs lst sets bst k10).2.1) 2) (9 + (8 * k)) (nI (1 + k10)))) past nac imgs kept q3.2.1 q3.2.2.1 q3.2.2.2.1 q3.2.2.2.2.1 q3.2.2.2.2.2 mlo mal mpr lak trc ntr) := ov_isV
                  refine r_iload X 7 dX8_fits_127 rfl ?_
                  refine r_iload_n X 3 dX8_fits_129 rfl ?_
                  refine r_icmp_ge X 173 dX8_fits_130 rfl (fun ct => ?_) (fun ct => ?_)
                  · rw [if_neg ct] at hf
                    refine SW.pick [0, 1, 2, 3, 4, 5, 6] [(0, .ref b), (1, .int (nI k)), (2, .int (nI r)), (3, .int (nI mm)), (4, .int ((f_Model_fits_L81 items U Hh mm k r mm 1 (0 : Int32) (va_up W 2 (f_copies (W 0) (W 2) 0 0)) gvn costs lst sets bst k10).1)), (5, .int (nI (1 + k10))), (6, .int y6)] rfl ?_
                    subst hf
                    exact K hi
                  · rw [if_pos ct] at hf
                    have ht := nI_ltX ct (by omega) (by omega)
                    refine r_iload X 6 dX8_fits_133 rfl ?_
                    refine r_if_eq X 173 dX8_fits_135 rfl (fun c13 => ?_) (fun c13 => ?_)
                    · rw [if_pos c13] at hf
                      refine SW.pick [0, 1, 2, 3, 4, 5, 6] [(0, .ref b), (1, .int (nI k)), (2, .int (nI r)), (3, .int (nI mm)), (4, .int ((f_Model_fits_L81 items U Hh mm k r mm 1 (0 : Int32) (va_up W 2 (f_copies (W 0) (W 2) 0 0)) gvn costs lst sets bst k10).1)), (5, .int (nI (1 + k10))), (6, .int y6)] rfl ?_
                      subst hf
                      exact K hi
                    · rw [if_neg c13] at hf
                      refine r_aload_n X 0 dX8_fits_138 rfl ?_
                      refine gf_X8_53 X dX8_fits_139 (hv_b 0 _ rfl) rfl ?_
                      refine r_iload X 7 dX8_fits_142 rfl ?_
                      refine r_ialdn X (k0 := y7) dX8_fits_144 (hv_b 15 _ rfl) (by omega) (by decide) ?_
                      refine r_aload_n X 0 dX8_fits_145 rfl ?_
                      refine gf_X8_16 X dX8_fits_146 (hv_b 0 _ rfl) rfl ?_
                      refine r_bipush X (40 : Int32) dX8_fits_149 (by decide) ?_
                      refine r_iload_n X 2 dX8_fits_151 rfl ?_
                      refine r_imuln X (a := 40) (b := r) dX8_fits_152 ?_
                      refine r_iload X 7 dX8_fits_153 rfl ?_
                      refine r_iaddn X (a := 40 * r) (b := y7) dX8_fits_155 ?_
                      refine r_ialdn X (k0 := (40 * r) + y7) dX8_fits_156 (hv_b 3 _ rfl) (by omega) (by decide) ?_
                      refine m_join (P := SW Z 165 [(0, .ref b), (1, .int (nI k)), (2, .int (nI r)), (3, .int (nI mm)), (4, .int ((f_Model_fits_L81 items U Hh mm k r mm 1 (0 : Int32) (va_up W 2 (f_copies (W 0) (W 2) 0 0)) gvn costs lst sets bst k10).1)), (5, .int (nI (1 + k10))), (7, .int (nI y7))] [.int (if (q3.2.2.2.2.1 y7) = (items ((40 * r) + y7)) then (1 : Int32) else (0 : Int32))] (ov h b (modL b lane many items spare stat tape taped fk fp mat mst tok mval (va_up ((f_Model_fits_L81 items U Hh mm k r mm 1 (0 : Int32) (va_up W 2 (f_copies (W 0) (W 2) 0 0)) gvn costs lst sets bst k10).2.1) 2 (upd (((f_Model_fits_L81 items U Hh mm k r mm 1 (0 : Int32) (va_up W 2 (f_copies (W 0) (W 2) 0 0)) gvn costs lst sets bst k10).2.1) 2) (9 + (8 * k)) (nI (1 + k10)))) past nac imgs kept q3.2.1 q3.2.2.1 q3.2.2.2.1 q3.2.2.2.2.1 q3.2.2.2.2.2 mlo mal mpr lak trc ntr))) (fun K => ?_) ?_
                      · refine r_icmp_ne X 164 dX8_fits_157 rfl (fun c14 => ?_) (fun c14 => ?_)
                        · skip
                          refine r_iconst X (0 : Int32) dX8_fits_164 (by decide) ?_
                          refine SW.pick [0, 1, 2, 3, 4, 5, 7] [(0, .ref b), (1, .int (nI k)), (2, .int (nI r)), (3, .int (nI mm)), (4, .int ((f_Model_fits_L81 items U Hh mm k r mm 1 (0 : Int32) (va_up W 2 (f_copies (W 0) (W 2) 0 0)) gvn costs lst sets bst k10).1)), (5, .int (nI (1 + k10))), (7, .int (nI y7))] rfl ?_
                          try simp only [if_neg c14] at K ⊢
                          exact K
                        · skip
                          refine r_iconst X (1 : Int32) dX8_fits_160 (by decide) ?_
                          refine r_goto X 165 dX8_fits_161 rfl ?_
                          refine SW.pick [0, 1, 2, 3, 4, 5, 7] [(0, .ref b), (1, .int (nI k)), (2, .int (nI r)), (3, .int (nI mm)), (4, .int ((f_Model_fits_L81 items U Hh mm k r mm 1 (0 : Int32) (va_up W 2 (f_copies (W 0) (W 2) 0 0)) gvn costs lst sets bst k10).1)), (5, .int (nI (1 + k10))), (7, .int (nI y7))] rfl ?_
                          try simp only [if_pos c14] at K ⊢
                          exact K
                      have hv_b : isV (ov h b (modL b lane many items spare stat tape taped fk fp mat mst tok mval (va_up ((f_Model_fits_L81 items U Hh mm k r mm 1 (0 : Int32) (va_up W 2 (f_copies (W 0) (W 2) 0 0)) gvn costs lst sets bst k10).2.1) 2 (upd (((f_Model_fits_L81 items U Hh mm k r mm 1 (0 : Int32) (va_up W 2 (f_copies (W 0) (W 2) 0 0)) gvn costs lst sets bst k10).2.1) 2) (9 + (8 * k)) (nI (1 + k10)))) past nac imgs kept q3.2.1 q3.2.2.1 q3.2.2.2.1 q3.2.2.2.2.1 q3.2.2.2.2.2 mlo mal mpr lak trc ntr)) b (modL b lane many items spare stat tape taped fk fp mat mst tok mval (va_up ((f_Model_fits_L81 items U Hh mm k r mm 1 (0 : Int32) (va_up W 2 (f_copies (W 0) (W 2) 0 0)) gvn costs lst sets bst k10).2.1) 2 (upd (((f_Model_fits_L81 items U Hh mm k r mm 1 (0 : Int32) (va_up W 2 (f_copies (W 0) (W 2) 0 0)) gvn costs lst sets bst k10).2.1) 2) (9 + (8 * k)) (nI (1 + k10)))) past nac imgs kept q3.2.1 q3.2.2.1 q3.2.2.2.1 q3.2.2.2.2.1 q3.2.2.2.2.2 mlo mal mpr lak trc ntr) := ov_isV
                      refine r_istore [(0, .ref b), (1, .int (nI k)), (2, .int (nI r)), (3, .int (nI mm)), (4, .int ((f_Model_fits_L81 items U Hh mm k r mm 1 (0 : Int32) (va_up W 2 (f_copies (W 0) (W 2) 0 0)) gvn costs lst sets bst k10).1)), (5, .int (nI (1 + k10))), (6, .int (if (q3.2.2.2.2.1 y7) = (items ((40 * r) + y7)) then (1 : Int32) else (0 : Int32))), (7, .int (nI y7))] X dX8_fits_165 (by decide) rfl ?_
                      refine r_iinc [(0, .ref b), (1, .int (nI k)), (2, .int (nI r)), (3, .int (nI mm)), (4, .int ((f_Model_fits_L81 items U Hh mm k r mm 1 (0 : Int32) (va_up W 2 (f_copies (W 0) (W 2) 0 0)) gvn costs lst sets bst k10).1)), (5, .int (nI (1 + k10))), (6, .int (if (q3.2.2.2.2.1 y7) = (items ((40 * r) + y7)) then (1 : Int32) else (0 : Int32))), (7, .int (nI (y7 + 1)))] X (nI (y7 + 1)) 7 dX8_fits_167 rfl (nI_succ _).symm (by decide) rfl ?_
                      refine r_goto X 127 dX8_fits_170 rfl ?_
                      exact ih _ _ (by omega) (by omega) (by rw [hf]; exact K)
              refine wl12 (mm + 1) (if q3.1 = (-1000000 : Int32) then (0 : Int32) else (1 : Int32)) 0 (Nat.zero_le _) (by omega) (fun hi => ?_)
              obtain ⟨q4, eq4⟩ : ∃ q, q = f_Model_fits_L127 items q3.2.2.2.2.1 r mm (mm + 1) (if q3.1 = (-1000000 : Int32) then (0 : Int32) else (1 : Int32)) 0 := ⟨_, rfl⟩
              rw [← eq4]
              rw [← eq4] at hi
              have hv_b : isV (ov h b (modL b lane many items spare stat tape taped fk fp mat mst tok mval (va_up ((f_Model_fits_L81 items U Hh mm k r mm 1 (0 : Int32) (va_up W 2 (f_copies (W 0) (W 2) 0 0)) gvn costs lst sets bst k10).2.1) 2 (upd (((f_Model_fits_L81 items U Hh mm k r mm 1 (0 : Int32) (va_up W 2 (f_copies (W 0) (W 2) 0 0)) gvn costs lst sets bst k10).2.1) 2) (9 + (8 * k)) (nI (1 + k10)))) past nac imgs kept q3.2.1 q3.2.2.1 q3.2.2.2.1 q3.2.2.2.2.1 q3.2.2.2.2.2 mlo mal mpr lak trc ntr)) b (modL b lane many items spare stat tape taped fk fp mat mst tok mval (va_up ((f_Model_fits_L81 items U Hh mm k r mm 1 (0 : Int32) (va_up W 2 (f_copies (W 0) (W 2) 0 0)) gvn costs lst sets bst k10).2.1) 2 (upd (((f_Model_fits_L81 items U Hh mm k r mm 1 (0 : Int32) (va_up W 2 (f_copies (W 0) (W 2) 0 0)) gvn costs lst sets bst k10).2.1) 2) (9 + (8 * k)) (nI (1 + k10)))) past nac imgs kept q3.2.1 q3.2.2.1 q3.2.2.2.1 q3.2.2.2.2.1 q3.2.2.2.2.2 mlo mal mpr lak trc ntr) := ov_isV
              refine r_iload X 4 dX8_fits_173 rfl ?_
              refine r_iload X 6 dX8_fits_175 rfl ?_
              refine m_join (P := SW Z 188 [(0, .ref b), (1, .int (nI k)), (2, .int (nI r)), (3, .int (nI mm)), (5, .int (nI (1 + k10)))] [.int (if q4.1 = (0 : Int32) then (0 : Int32) else (1 : Int32) <<< ((nI (1 + k10)) &&& 31)), .int ((f_Model_fits_L81 items U Hh mm k r mm 1 (0 : Int32) (va_up W 2 (f_copies (W 0) (W 2) 0 0)) gvn costs lst sets bst k10).1)] (ov h b (modL b lane many items spare stat tape taped fk fp mat mst tok mval (va_up ((f_Model_fits_L81 items U Hh mm k r mm 1 (0 : Int32) (va_up W 2 (f_copies (W 0) (W 2) 0 0)) gvn costs lst sets bst k10).2.1) 2 (upd (((f_Model_fits_L81 items U Hh mm k r mm 1 (0 : Int32) (va_up W 2 (f_copies (W 0) (W 2) 0 0)) gvn costs lst sets bst k10).2.1) 2) (9 + (8 * k)) (nI (1 + k10)))) past nac imgs kept q3.2.1 q3.2.2.1 q3.2.2.2.1 q3.2.2.2.2.1 q3.2.2.2.2.2 mlo mal mpr lak trc ntr))) (fun K => ?_) ?_
              · refine r_if_eq X 187 dX8_fits_177 rfl (fun c15 => ?_) (fun c15 => ?_)
                · skip
                  refine r_iconst X (0 : Int32) dX8_fits_187 (by decide) ?_
                  refine SW.pick [0, 1, 2, 3, 5] [(0, .ref b), (1, .int (nI k)), (2, .int (nI r)), (3, .int (nI mm)), (5, .int (nI (1 + k10)))] rfl ?_
                  try simp only [if_pos c15] at K ⊢
                  exact K
                · skip
                  refine r_iconst X (1 : Int32) dX8_fits_180 (by decide) ?_
                  refine r_iload X 5 dX8_fits_181 rfl ?_
                  refine r_ishl X dX8_fits_183 ?_
                  refine r_goto X 188 dX8_fits_184 rfl ?_
                  refine SW.pick [0, 1, 2, 3, 5] [(0, .ref b), (1, .int (nI k)), (2, .int (nI r)), (3, .int (nI mm)), (5, .int (nI (1 + k10)))] rfl ?_
                  try simp only [if_neg c15] at K ⊢
                  exact K
              have hv_b : isV (ov h b (modL b lane many items spare stat tape taped fk fp mat mst tok mval (va_up ((f_Model_fits_L81 items U Hh mm k r mm 1 (0 : Int32) (va_up W 2 (f_copies (W 0) (W 2) 0 0)) gvn costs lst sets bst k10).2.1) 2 (upd (((f_Model_fits_L81 items U Hh mm k r mm 1 (0 : Int32) (va_up W 2 (f_copies (W 0) (W 2) 0 0)) gvn costs lst sets bst k10).2.1) 2) (9 + (8 * k)) (nI (1 + k10)))) past nac imgs kept q3.2.1 q3.2.2.1 q3.2.2.2.1 q3.2.2.2.2.1 q3.2.2.2.2.2 mlo mal mpr lak trc ntr)) b (modL b lane many items spare stat tape taped fk fp mat mst tok mval (va_up ((f_Model_fits_L81 items U Hh mm k r mm 1 (0 : Int32) (va_up W 2 (f_copies (W 0) (W 2) 0 0)) gvn costs lst sets bst k10).2.1) 2 (upd (((f_Model_fits_L81 items U Hh mm k r mm 1 (0 : Int32) (va_up W 2 (f_copies (W 0) (W 2) 0 0)) gvn costs lst sets bst k10).2.1) 2) (9 + (8 * k)) (nI (1 + k10)))) past nac imgs kept q3.2.1 q3.2.2.1 q3.2.2.2.1 q3.2.2.2.2.1 q3.2.2.2.2.2 mlo mal mpr lak trc ntr) := ov_isV
              refine r_ior X dX8_fits_188 ?_
              refine r_istore [(0, .ref b), (1, .int (nI k)), (2, .int (nI r)), (3, .int (nI mm)), (4, .int (((f_Model_fits_L81 items U Hh mm k r mm 1 (0 : Int32) (va_up W 2 (f_copies (W 0) (W 2) 0 0)) gvn costs lst sets bst k10).1) ||| (if q4.1 = (0 : Int32) then (0 : Int32) else (1 : Int32) <<< ((nI (1 + k10)) &&& 31)))), (5, .int (nI (1 + k10)))] X dX8_fits_189 (by decide) rfl ?_
              refine r_iinc [(0, .ref b), (1, .int (nI k)), (2, .int (nI r)), (3, .int (nI mm)), (4, .int (((f_Model_fits_L81 items U Hh mm k r mm 1 (0 : Int32) (va_up W 2 (f_copies (W 0) (W 2) 0 0)) gvn costs lst sets bst k10).1) ||| (if q4.1 = (0 : Int32) then (0 : Int32) else (1 : Int32) <<< ((nI (1 + k10)) &&& 31)))), (5, .int (nI ((1 + k10) + 1)))] X (nI ((1 + k10) + 1)) 5 dX8_fits_191 rfl (nI_succ _).symm (by decide) rfl ?_
              refine r_goto X 81 dX8_fits_194 rfl ?_
              subst eq4
              subst eq3
              exact ih
            have hw0 : (f_Model_fits_L81 items U Hh mm k r mm 1 (0 : Int32) (va_up W 2 (f_copies (W 0) (W 2) 0 0)) gvn costs lst sets bst (6 - 1)).2.1 2 0 = nI U := (fits_w (by decide) _).trans (tr_at ((copies0 (by decide)).trans h0))
            have hw1 : (f_Model_fits_L81 items U Hh mm k r mm 1 (0 : Int32) (va_up W 2 (f_copies (W 0) (W 2) 0 0)) gvn costs lst sets bst (6 - 1)).2.1 2 1 = nI Hh := (fits_w (by decide) _).trans (tr_at ((copies0 (by decide)).trans h1))
            obtain ⟨q5, eq5⟩ : ∃ q, q = f_Model_fits_L81 items U Hh mm k r mm 1 (0 : Int32) (va_up W 2 (f_copies (W 0) (W 2) 0 0)) gvn costs lst sets bst (6 - 1) := ⟨_, rfl⟩
            rw [← eq5]
            rw [← eq5] at hf
            rw [lt_eq] at hf
            have hv_b : isV (ov h b (modL b lane many items spare stat tape taped fk fp mat mst tok mval q5.2.1 past nac imgs kept q5.2.2.1 q5.2.2.2.1 q5.2.2.2.2.1 q5.2.2.2.2.2.1 q5.2.2.2.2.2.2 mlo mal mpr lak trc ntr)) b (modL b lane many items spare stat tape taped fk fp mat mst tok mval q5.2.1 past nac imgs kept q5.2.2.1 q5.2.2.2.1 q5.2.2.2.2.1 q5.2.2.2.2.2.1 q5.2.2.2.2.2.2 mlo mal mpr lak trc ntr) := ov_isV
            refine r_iload X 5 dX8_fits_81 rfl ?_
            refine r_bipush X (6 : Int32) dX8_fits_83 (by decide) ?_
            refine r_icmp_ge X 197 dX8_fits_85 rfl (fun _ => ?_) (fun z => absurd z (nI_nlt (a := 1 + (6 - 1)) (b := 6) (by omega) (by omega)))
            refine r_aload_n X 0 dX8_fits_197 rfl ?_
            refine r_iload X 4 dX8_fits_198 rfl ?_
            refine cl_X8_85 X (by decide) dX8_fits_200 (Nat.le_of_ble_eq_true rfl) (hv_b 0 _ rfl) (c_Model_well  ) ?_
            obtain ⟨q6, eq6⟩ : ∃ q, q = f_Model_well q5.1 := ⟨_, rfl⟩
            rw [← eq6]
            rw [← eq6] at hf
            rw [lt_eq] at hf
            have hv_b : isV (ov h b (modL b lane many items spare q6.2 tape taped fk fp mat mst tok mval q5.2.1 past nac imgs kept q5.2.2.1 q5.2.2.2.1 q5.2.2.2.2.1 q5.2.2.2.2.2.1 q5.2.2.2.2.2.2 mlo mal mpr lak trc ntr)) b (modL b lane many items spare q6.2 tape taped fk fp mat mst tok mval q5.2.1 past nac imgs kept q5.2.2.1 q5.2.2.2.1 q5.2.2.2.2.1 q5.2.2.2.2.2.1 q5.2.2.2.2.2.2 mlo mal mpr lak trc ntr) := ov_isV
            try subst hf
            exact r_ireturn X Y dX8_fits_203 rfl rfl
          · rw [if_pos c2] at hf
            refine r_aload_n X 0 dX8_fits_56 rfl ?_
            refine r_iconst X (2 : Int32) dX8_fits_57 (by decide) ?_
            refine cl_X8_81 X (by decide) dX8_fits_58 (Nat.le_of_ble_eq_true rfl) (hv_b 0 _ rfl) (c_Model_found  ) ?_
            obtain ⟨q7, eq7⟩ : ∃ q, q = f_Model_found (2 : Int32) := ⟨_, rfl⟩
            rw [← eq7]
            rw [← eq7] at hf
            rw [lt_eq] at hf
            have hv_b : isV (ov h b (modL b lane many items spare q7.2 tape taped fk fp mat mst tok mval W past nac imgs kept gvn costs lst sets bst mlo mal mpr lak trc ntr)) b (modL b lane many items spare q7.2 tape taped fk fp mat mst tok mval W past nac imgs kept gvn costs lst sets bst mlo mal mpr lak trc ntr) := ov_isV
            try subst hf
            exact r_ireturn X Y dX8_fits_61 rfl rfl
        · rw [if_neg c1] at hf
          refine r_aload_n X 0 dX8_fits_40 rfl ?_
          refine r_iconst X (1 : Int32) dX8_fits_41 (by decide) ?_
          refine cl_X8_81 X (by decide) dX8_fits_42 (Nat.le_of_ble_eq_true rfl) (hv_b 0 _ rfl) (c_Model_found  ) ?_
          obtain ⟨q8, eq8⟩ : ∃ q, q = f_Model_found (1 : Int32) := ⟨_, rfl⟩
          rw [← eq8]
          rw [← eq8] at hf
          rw [lt_eq] at hf
          have hv_b : isV (ov h b (modL b lane many items spare q8.2 tape taped fk fp mat mst tok mval W past nac imgs kept gvn costs lst sets bst mlo mal mpr lak trc ntr)) b (modL b lane many items spare q8.2 tape taped fk fp mat mst tok mval W past nac imgs kept gvn costs lst sets bst mlo mal mpr lak trc ntr) := ov_isV
          try subst hf
          exact r_ireturn X Y dX8_fits_45 rfl rfl
      · rw [if_pos cn] at hf
        refine r_ldc X dX8_fits_29 kk_X8_80 ?_
        try subst hf
        exact r_ireturn X Y dX8_fits_31 rfl rfl
