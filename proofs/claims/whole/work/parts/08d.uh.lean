theorem Ret.hyp2 {G : mG} {n : Nat} {M : mM} {av : List Value} {H h' : mHp} {r : Option Value} {d e : Nat} {L K : List mC} (hv : isV H d L) (hw : isV H e K) (hR : Ret G n M av (ov (ov H d L) e K) r h') : Ret G n M av H r h' := by
  rw [ov_self hv, ov_self hw] at hR
  exact hR
theorem ov_two {h h2 h3 : mHp} {d e : Nat} {L K : List mC} (h1 : ov h d L = h2) (h4 : ov h2 e K = h3) : ov (ov h d L) e K = h3 := by
  rw [h1]; exact h4
theorem nI_nneg {k : Nat} (h : k < 2 ^ 31) : ¬ nI k < 0 := nI_nlt (b := 0) (Nat.zero_le _) h
theorem miss_nat {siz : Nat → Int32} {w : Nat} (h : siz w = -1 ∨ ∃ m, m ≤ 40 ∧ siz w = nI m) (c : f_Rows_isMissing siz w = 0) : ∃ m, m ≤ 40 ∧ siz w = nI m := by
  rcases h with h | h
  · unfold f_Rows_isMissing at c
    rw [h] at c
    exact absurd c (by decide)
  · exact h
theorem lacksn_nat {siz : Nat → Int32} {w : Nat} {i n : Int32} {m : Nat} (hs : siz w = nI m) (hm : m ≤ 40) (h : f_Rows_lacks siz w i n = 0) : ∃ k, k ≤ 40 ∧ n = nI k := by
  unfold f_Rows_lacks at h
  rw [hs] at h
  by_cases c1 : i < 0
  · rw [if_pos c1] at h; exact absurd h (by decide)
  · rw [if_neg c1] at h
    by_cases c2 : n < (0 : Int32)
    · rw [if_pos c2] at h; exact absurd h (by decide)
    · rw [if_neg c2] at h
      by_cases c3 : nI m < i
      · rw [if_pos c3] at h; exact absurd h (by decide)
      · rw [if_neg c3] at h
        obtain ⟨j, hj, rfl⟩ := le_nat c1 c3
        rw [pk_sub hj] at h
        by_cases c4 : nI (m - j) < n
        · rw [if_pos c4] at h; exact absurd h (by decide)
        · obtain ⟨k, hk, rfl⟩ := le_nat c2 c4
          exact ⟨k, by omega, rfl⟩
theorem lacksi_nat {siz : Nat → Int32} {w : Nat} {i : Int32} {k m : Nat} (hs : siz w = nI m) (hm : m ≤ 40) (hk : k ≤ 40) (h : f_Rows_lacks siz w i (nI k) = 0) : ∃ j, j + k ≤ 40 ∧ i = nI j := by
  unfold f_Rows_lacks at h
  rw [hs] at h
  by_cases c1 : i < 0
  · rw [if_pos c1] at h; exact absurd h (by decide)
  · rw [if_neg c1] at h
    rw [if_neg (nI_nneg (by omega))] at h
    by_cases c3 : nI m < i
    · rw [if_pos c3] at h; exact absurd h (by decide)
    · rw [if_neg c3] at h
      obtain ⟨j, hj, rfl⟩ := le_nat c1 c3
      rw [pk_sub hj] at h
      by_cases c4 : nI (m - j) < nI k
      · rw [if_pos c4] at h; exact absurd h (by decide)
      · refine ⟨j, ?_, rfl⟩
        rcases Nat.lt_or_ge (m - j) k with q | q
        · exact absurd (nI_lt q (by omega)) c4
        · omega

theorem lt_nat {v : Int32} {N : Nat} (hN : N < 2 ^ 31) (h0 : ¬ v < 0) (h : v < nI N) : ∃ k, k < N ∧ v = nI k := by
  obtain ⟨j, hj, rfl⟩ := nI_of h0
  exact ⟨j, nI_ltX h hj hN, rfl⟩

def f_UH_row (fin : Int32) (it : Nat → Nat → Int32) (lan : Nat → Int32) (siz : Nat → Int32) (row : Int32) (la : Int32) (n : Int32) : Int32 × (Nat → Nat → Int32) × (Nat → Int32) × (Nat → Int32) × Int32 := (if (f_UH_noRow row) = (0 : Int32) then (if la < (0 : Int32) then ((-1000001 : Int32), it, lan, siz, fin) else (if (2 : Int32) < la then ((-1000001 : Int32), it, lan, siz, fin) else (if (40 : Int32) < n then ((-1000001 : Int32), it, lan, siz, fin) else (if n < (0 : Int32) then (lt_ (f_UH_found (4 : Int32)) (fun q3 => (q3.1, it, lan, siz, q3.2))) else (lt_ (f_Rows_make it lan siz (row.toNatClampNeg) la n) (fun q1 => (lt_ (f_UH_well n) (fun q2 => (q2.1, q1.1, q1.2.1, q1.2.2, q2.2))))))))) else ((-1000001 : Int32), it, lan, siz, fin))
set_option maxRecDepth 20000 in
set_option maxHeartbeats 4000000 in
theorem c_UH_row {G : mG} {h : mHp} {x : Nat} {fin : Int32} {lf : Int32} {kn : Int64} {ik : Int32} {it : Nat → Nat → Int32} {lan : Nat → Int32} {siz : Nat → Int32} {row : Int32} {la : Int32} {n : Int32}  (dj_x_r : x + 1 ≤ x + 1 ∨ x + 1 + 12 ≤ x) (dj_r_x : x + 1 + 12 ≤ x ∨ x + 1 ≤ x + 1)  : Ret G 2 mX7_row [.ref x, .int row, .int la, .int n] (ov (ov h (x + 1) (rowL (x + 1) it lan siz)) x (uhL x fin lf kn ik)) (some (.int (f_UH_row fin it lan siz row la n).1)) (ov (ov h (x + 1) (rowL (x + 1) (f_UH_row fin it lan siz row la n).2.1 (f_UH_row fin it lan siz row la n).2.2.1 (f_UH_row fin it lan siz row la n).2.2.2.1)) x (uhL x (f_UH_row fin it lan siz row la n).2.2.2.2 lf kn ik)) := by
  generalize hf : f_UH_row fin it lan siz row la n = R
  unfold f_UH_row at hf
  refine Ret.of [(0, .ref x), (1, .int row), (2, .int la), (3, .int n)] (by decide) (Nat.le_of_ble_eq_true rfl) rfl ?_
  rintro Z rfl X Y
  have hv_x : isV (ov (ov h (x + 1) (rowL (x + 1) it lan siz)) x (uhL x fin lf kn ik)) x (uhL x fin lf kn ik) := ov_isV
  have hv_r : isV (ov (ov h (x + 1) (rowL (x + 1) it lan siz)) x (uhL x fin lf kn ik)) (x + 1) (rowL (x + 1) it lan siz) := isV_ov dj_r_x (ov_isV)
  refine r_aload_n X 0 dX7_row_0 rfl ?_
  refine r_iload_n X 1 dX7_row_1 rfl ?_
  refine cl_X7_65 X (by decide) dX7_row_2 (Nat.le_of_ble_eq_true rfl) (hv_x 0 _ rfl) (c_UH_noRow hv_x ) ?_
  refine r_if_ne X 23 dX7_row_5 rfl (fun cr => ?_) (fun cr => ?_)
  · rw [if_neg cr] at hf
    refine r_ldc X dX7_row_23 kk_X7_69 ?_
    try subst hf
    exact r_ireturn X Y dX7_row_25 rfl rfl
  · rw [if_pos cr] at hf
    obtain ⟨r, hr, rfl⟩ := noRow_nat cr
    try simp only [nI_clamp (show r < 2 ^ 31 by omega)] at hf
    refine r_iload_n X 2 dX7_row_8 rfl ?_
    refine r_if_lt X 23 dX7_row_9 rfl (fun c1 => ?_) (fun c1 => ?_)
    · rw [if_pos c1] at hf
      refine r_ldc X dX7_row_23 kk_X7_69 ?_
      try subst hf
      exact r_ireturn X Y dX7_row_25 rfl rfl
    · rw [if_neg c1] at hf
      refine r_iload_n X 2 dX7_row_12 rfl ?_
      refine r_iconst X (2 : Int32) dX7_row_13 (by decide) ?_
      refine r_icmp_gt X 23 dX7_row_14 rfl (fun c2 => ?_) (fun c2 => ?_)
      · rw [if_pos c2] at hf
        refine r_ldc X dX7_row_23 kk_X7_69 ?_
        try subst hf
        exact r_ireturn X Y dX7_row_25 rfl rfl
      · rw [if_neg c2] at hf
        refine r_iload_n X 3 dX7_row_17 rfl ?_
        refine r_bipush X (40 : Int32) dX7_row_18 (by decide) ?_
        refine r_icmp_le X 26 dX7_row_20 rfl (fun c3 => ?_) (fun c3 => ?_)
        · rw [if_neg c3] at hf
          refine r_iload_n X 3 dX7_row_26 rfl ?_
          refine r_if_ge X 36 dX7_row_27 rfl (fun c4 => ?_) (fun c4 => ?_)
          · rw [if_neg c4] at hf
            refine r_aload_n X 0 dX7_row_36 rfl ?_
            refine gf_X7_10 X dX7_row_37 (hv_x 0 _ rfl) rfl ?_
            refine r_iload_n X 1 dX7_row_40 rfl ?_
            refine r_iload_n X 2 dX7_row_41 rfl ?_
            refine r_iload_n X 3 dX7_row_42 rfl ?_
            refine cl_X7_74 X (by decide) dX7_row_43 (Nat.le_of_ble_eq_true rfl) (hv_r 0 _ rfl) (Ret.hyp hv_r (c_Rows_make  (by first | assumption | omega))) ?_
            obtain ⟨q1, eq1⟩ : ∃ q, q = f_Rows_make it lan siz r la n := ⟨_, rfl⟩
            rw [← eq1]
            rw [← eq1] at hf
            rw [lt_eq] at hf
            refine SW.heq (h2 := (ov (ov h (x + 1) (rowL (x + 1) q1.1 q1.2.1 q1.2.2)) x (uhL x fin lf kn ik))) (ov_step dj_r_x (ov_ov rfl)) ?_
            have hv_x : isV (ov (ov h (x + 1) (rowL (x + 1) q1.1 q1.2.1 q1.2.2)) x (uhL x fin lf kn ik)) x (uhL x fin lf kn ik) := ov_isV
            have hv_r : isV (ov (ov h (x + 1) (rowL (x + 1) q1.1 q1.2.1 q1.2.2)) x (uhL x fin lf kn ik)) (x + 1) (rowL (x + 1) q1.1 q1.2.1 q1.2.2) := isV_ov dj_r_x (ov_isV)
            refine r_aload_n X 0 dX7_row_46 rfl ?_
            refine r_iload_n X 3 dX7_row_47 rfl ?_
            refine cl_X7_78 X (by decide) dX7_row_48 (Nat.le_of_ble_eq_true rfl) (hv_x 0 _ rfl) (c_UH_well  ) ?_
            obtain ⟨q2, eq2⟩ : ∃ q, q = f_UH_well n := ⟨_, rfl⟩
            rw [← eq2]
            rw [← eq2] at hf
            rw [lt_eq] at hf
            have hv_x : isV (ov (ov h (x + 1) (rowL (x + 1) q1.1 q1.2.1 q1.2.2)) x (uhL x q2.2 lf kn ik)) x (uhL x q2.2 lf kn ik) := ov_isV
            have hv_r : isV (ov (ov h (x + 1) (rowL (x + 1) q1.1 q1.2.1 q1.2.2)) x (uhL x q2.2 lf kn ik)) (x + 1) (rowL (x + 1) q1.1 q1.2.1 q1.2.2) := isV_ov dj_r_x (ov_isV)
            try subst hf
            exact r_ireturn X Y dX7_row_51 rfl rfl
          · rw [if_pos c4] at hf
            refine r_aload_n X 0 dX7_row_30 rfl ?_
            refine r_iconst X (4 : Int32) dX7_row_31 (by decide) ?_
            refine cl_X7_70 X (by decide) dX7_row_32 (Nat.le_of_ble_eq_true rfl) (hv_x 0 _ rfl) (c_UH_found  ) ?_
            obtain ⟨q3, eq3⟩ : ∃ q, q = f_UH_found (4 : Int32) := ⟨_, rfl⟩
            rw [← eq3]
            rw [← eq3] at hf
            rw [lt_eq] at hf
            have hv_x : isV (ov (ov h (x + 1) (rowL (x + 1) it lan siz)) x (uhL x q3.2 lf kn ik)) x (uhL x q3.2 lf kn ik) := ov_isV
            have hv_r : isV (ov (ov h (x + 1) (rowL (x + 1) it lan siz)) x (uhL x q3.2 lf kn ik)) (x + 1) (rowL (x + 1) it lan siz) := isV_ov dj_r_x (ov_isV)
            try subst hf
            exact r_ireturn X Y dX7_row_35 rfl rfl
        · rw [if_pos c3] at hf
          refine r_ldc X dX7_row_23 kk_X7_69 ?_
          try subst hf
          exact r_ireturn X Y dX7_row_25 rfl rfl

def f_UH_set (fin : Int32) (it : Nat → Nat → Int32) (lan : Nat → Int32) (siz : Nat → Int32) (row : Int32) (i : Int32) (v : Int32) : Int32 × (Nat → Nat → Int32) × Int32 := (if (f_UH_noRow row) = (0 : Int32) then (if (f_Rows_isMissing siz (row.toNatClampNeg)) = (0 : Int32) then (if (f_Rows_lacks siz (row.toNatClampNeg) i (1 : Int32)) = (0 : Int32) then (lt_ (f_Rows_put it lan (row.toNatClampNeg) (i.toNatClampNeg) v) (fun q1 => (lt_ (f_UH_well q1.1) (fun q2 => (q2.1, q1.2, q2.2))))) else (lt_ (f_UH_found (2 : Int32)) (fun q3 => (q3.1, it, q3.2)))) else (lt_ (f_UH_found (1 : Int32)) (fun q4 => (q4.1, it, q4.2)))) else ((-1000001 : Int32), it, fin))
set_option maxRecDepth 20000 in
set_option maxHeartbeats 4000000 in
theorem c_UH_set {G : mG} {h : mHp} {x : Nat} {fin : Int32} {lf : Int32} {kn : Int64} {ik : Int32} {it : Nat → Nat → Int32} {lan : Nat → Int32} {siz : Nat → Int32} {row : Int32} {i : Int32} {v : Int32}  (dj_x_r : x + 1 ≤ x + 1 ∨ x + 1 + 12 ≤ x) (dj_r_x : x + 1 + 12 ≤ x ∨ x + 1 ≤ x + 1) (hsz : ∀ j, j < 8 → siz j = -1 ∨ ∃ m, m ≤ 40 ∧ siz j = nI m) : Ret G 1 mX7_set [.ref x, .int row, .int i, .int v] (ov (ov h (x + 1) (rowL (x + 1) it lan siz)) x (uhL x fin lf kn ik)) (some (.int (f_UH_set fin it lan siz row i v).1)) (ov (ov h (x + 1) (rowL (x + 1) (f_UH_set fin it lan siz row i v).2.1 lan siz)) x (uhL x (f_UH_set fin it lan siz row i v).2.2 lf kn ik)) := by
  generalize hf : f_UH_set fin it lan siz row i v = R
  unfold f_UH_set at hf
  refine Ret.of [(0, .ref x), (1, .int row), (2, .int i), (3, .int v)] (by decide) (Nat.le_of_ble_eq_true rfl) rfl ?_
  rintro Z rfl X Y
  have hv_x : isV (ov (ov h (x + 1) (rowL (x + 1) it lan siz)) x (uhL x fin lf kn ik)) x (uhL x fin lf kn ik) := ov_isV
  have hv_r : isV (ov (ov h (x + 1) (rowL (x + 1) it lan siz)) x (uhL x fin lf kn ik)) (x + 1) (rowL (x + 1) it lan siz) := isV_ov dj_r_x (ov_isV)
  refine r_aload_n X 0 dX7_set_0 rfl ?_
  refine r_iload_n X 1 dX7_set_1 rfl ?_
  refine cl_X7_65 X (by decide) dX7_set_2 (Nat.le_of_ble_eq_true rfl) (hv_x 0 _ rfl) (c_UH_noRow hv_x ) ?_
  refine r_if_eq X 11 dX7_set_5 rfl (fun cr => ?_) (fun cr => ?_)
  · rw [if_pos cr] at hf
    obtain ⟨r, hr, rfl⟩ := noRow_nat cr
    try simp only [nI_clamp (show r < 2 ^ 31 by omega)] at hf
    refine r_aload_n X 0 dX7_set_11 rfl ?_
    refine gf_X7_10 X dX7_set_12 (hv_x 0 _ rfl) rfl ?_
    refine r_iload_n X 1 dX7_set_15 rfl ?_
    refine cl_X7_81 X (by decide) dX7_set_16 (Nat.le_of_ble_eq_true rfl) (hv_r 0 _ rfl) (c_Rows_isMissing hv_r (by first | assumption | omega)) ?_
    refine r_if_eq X 28 dX7_set_19 rfl (fun cm => ?_) (fun cm => ?_)
    · rw [if_pos cm] at hf
      obtain ⟨mm, hmm, hsm⟩ := miss_nat (hsz _ hr) cm
      refine r_aload_n X 0 dX7_set_28 rfl ?_
      refine gf_X7_10 X dX7_set_29 (hv_x 0 _ rfl) rfl ?_
      refine r_iload_n X 1 dX7_set_32 rfl ?_
      refine r_iload_n X 2 dX7_set_33 rfl ?_
      refine r_iconst X (1 : Int32) dX7_set_34 (by decide) ?_
      refine cl_X7_84 X (by decide) dX7_set_35 (Nat.le_of_ble_eq_true rfl) (hv_r 0 _ rfl) (c_Rows_lacks hv_r (by first | assumption | omega)) ?_
      refine r_if_eq X 47 dX7_set_38 rfl (fun cl => ?_) (fun cl => ?_)
      · rw [if_pos cl] at hf
        obtain ⟨i0, hi0, rfl⟩ := lacks_nat hsm hmm cl
        try simp only [nI_clamp (show i0 < 2 ^ 31 by omega)] at hf
        refine r_aload_n X 0 dX7_set_47 rfl ?_
        refine r_aload_n X 0 dX7_set_48 rfl ?_
        refine gf_X7_10 X dX7_set_49 (hv_x 0 _ rfl) rfl ?_
        refine r_iload_n X 1 dX7_set_52 rfl ?_
        refine r_iload_n X 2 dX7_set_53 rfl ?_
        refine r_iload_n X 3 dX7_set_54 rfl ?_
        refine cl_X7_88 X (by decide) dX7_set_55 (Nat.le_of_ble_eq_true rfl) (hv_r 0 _ rfl) (Ret.hyp hv_r (c_Rows_put  (by first | assumption | omega) (by first | assumption | omega))) ?_
        obtain ⟨q1, eq1⟩ : ∃ q, q = f_Rows_put it lan r i0 v := ⟨_, rfl⟩
        rw [← eq1]
        rw [← eq1] at hf
        rw [lt_eq] at hf
        refine SW.heq (h2 := (ov (ov h (x + 1) (rowL (x + 1) q1.2 lan siz)) x (uhL x fin lf kn ik))) (ov_step dj_r_x (ov_ov rfl)) ?_
        have hv_x : isV (ov (ov h (x + 1) (rowL (x + 1) q1.2 lan siz)) x (uhL x fin lf kn ik)) x (uhL x fin lf kn ik) := ov_isV
        have hv_r : isV (ov (ov h (x + 1) (rowL (x + 1) q1.2 lan siz)) x (uhL x fin lf kn ik)) (x + 1) (rowL (x + 1) q1.2 lan siz) := isV_ov dj_r_x (ov_isV)
        refine cl_X7_78 X (by decide) dX7_set_58 (Nat.le_of_ble_eq_true rfl) (hv_x 0 _ rfl) (c_UH_well  ) ?_
        obtain ⟨q2, eq2⟩ : ∃ q, q = f_UH_well q1.1 := ⟨_, rfl⟩
        rw [← eq2]
        rw [← eq2] at hf
        rw [lt_eq] at hf
        have hv_x : isV (ov (ov h (x + 1) (rowL (x + 1) q1.2 lan siz)) x (uhL x q2.2 lf kn ik)) x (uhL x q2.2 lf kn ik) := ov_isV
        have hv_r : isV (ov (ov h (x + 1) (rowL (x + 1) q1.2 lan siz)) x (uhL x q2.2 lf kn ik)) (x + 1) (rowL (x + 1) q1.2 lan siz) := isV_ov dj_r_x (ov_isV)
        try subst hf
        exact r_ireturn X Y dX7_set_61 rfl rfl
      · rw [if_neg cl] at hf
        refine r_aload_n X 0 dX7_set_41 rfl ?_
        refine r_iconst X (2 : Int32) dX7_set_42 (by decide) ?_
        refine cl_X7_70 X (by decide) dX7_set_43 (Nat.le_of_ble_eq_true rfl) (hv_x 0 _ rfl) (c_UH_found  ) ?_
        obtain ⟨q3, eq3⟩ : ∃ q, q = f_UH_found (2 : Int32) := ⟨_, rfl⟩
        rw [← eq3]
        rw [← eq3] at hf
        rw [lt_eq] at hf
        have hv_x : isV (ov (ov h (x + 1) (rowL (x + 1) it lan siz)) x (uhL x q3.2 lf kn ik)) x (uhL x q3.2 lf kn ik) := ov_isV
        have hv_r : isV (ov (ov h (x + 1) (rowL (x + 1) it lan siz)) x (uhL x q3.2 lf kn ik)) (x + 1) (rowL (x + 1) it lan siz) := isV_ov dj_r_x (ov_isV)
        try subst hf
        exact r_ireturn X Y dX7_set_46 rfl rfl
    · rw [if_neg cm] at hf
      refine r_aload_n X 0 dX7_set_22 rfl ?_
      refine r_iconst X (1 : Int32) dX7_set_23 (by decide) ?_
      refine cl_X7_70 X (by decide) dX7_set_24 (Nat.le_of_ble_eq_true rfl) (hv_x 0 _ rfl) (c_UH_found  ) ?_
      obtain ⟨q4, eq4⟩ : ∃ q, q = f_UH_found (1 : Int32) := ⟨_, rfl⟩
      rw [← eq4]
      rw [← eq4] at hf
      rw [lt_eq] at hf
      have hv_x : isV (ov (ov h (x + 1) (rowL (x + 1) it lan siz)) x (uhL x q4.2 lf kn ik)) x (uhL x q4.2 lf kn ik) := ov_isV
      have hv_r : isV (ov (ov h (x + 1) (rowL (x + 1) it lan siz)) x (uhL x q4.2 lf kn ik)) (x + 1) (rowL (x + 1) it lan siz) := isV_ov dj_r_x (ov_isV)
      try subst hf
      exact r_ireturn X Y dX7_set_27 rfl rfl
  · rw [if_neg cr] at hf
    refine r_ldc X dX7_set_8 kk_X7_69 ?_
    try subst hf
    exact r_ireturn X Y dX7_set_10 rfl rfl

def f_UH_copy (fin : Int32) (it : Nat → Nat → Int32) (lan : Nat → Int32) (siz : Nat → Int32) (a : Int32) (i : Int32) (bb : Int32) (j : Int32) (n : Int32) : Int32 × (Nat → Nat → Int32) × Int32 := (if (f_UH_noRow a) = (0 : Int32) then (if (f_UH_noRow bb) = (0 : Int32) then (if (f_Rows_isMissing siz (a.toNatClampNeg)) = (0 : Int32) then (if (f_Rows_isMissing siz (bb.toNatClampNeg)) = (0 : Int32) then (if (lan (a.toNatClampNeg)) = (lan (bb.toNatClampNeg)) then (if (f_Rows_lacks siz (a.toNatClampNeg) i n) = (0 : Int32) then (if (f_Rows_lacks siz (bb.toNatClampNeg) j n) = (0 : Int32) then (lt_ (f_UH_well (nI (n.toNatClampNeg))) (fun q3 => (q3.1, va_up it (bb.toNatClampNeg) (va_cpy (it (a.toNatClampNeg)) (it (bb.toNatClampNeg)) (i.toNatClampNeg) (j.toNatClampNeg) (n.toNatClampNeg)), q3.2))) else (lt_ (f_UH_found (2 : Int32)) (fun q4 => (q4.1, it, q4.2)))) else (lt_ (f_UH_found (2 : Int32)) (fun q2 => (q2.1, it, q2.2)))) else (lt_ (f_UH_found (5 : Int32)) (fun q5 => (q5.1, it, q5.2)))) else (lt_ (f_UH_found (1 : Int32)) (fun q6 => (q6.1, it, q6.2)))) else (lt_ (f_UH_found (1 : Int32)) (fun q1 => (q1.1, it, q1.2)))) else ((-1000001 : Int32), it, fin)) else ((-1000001 : Int32), it, fin))
set_option maxRecDepth 20000 in
set_option maxHeartbeats 4000000 in
theorem c_UH_copy {G : mG} {h : mHp} {x : Nat} {fin : Int32} {lf : Int32} {kn : Int64} {ik : Int32} {it : Nat → Nat → Int32} {lan : Nat → Int32} {siz : Nat → Int32} {a : Int32} {i : Int32} {bb : Int32} {j : Int32} {n : Int32}  (dj_x_r : x + 1 ≤ x + 1 ∨ x + 1 + 12 ≤ x) (dj_r_x : x + 1 + 12 ≤ x ∨ x + 1 ≤ x + 1) (hsz : ∀ j, j < 8 → siz j = -1 ∨ ∃ m, m ≤ 40 ∧ siz j = nI m) : Ret G 1 mX7_copy [.ref x, .int a, .int i, .int bb, .int j, .int n] (ov (ov h (x + 1) (rowL (x + 1) it lan siz)) x (uhL x fin lf kn ik)) (some (.int (f_UH_copy fin it lan siz a i bb j n).1)) (ov (ov h (x + 1) (rowL (x + 1) (f_UH_copy fin it lan siz a i bb j n).2.1 lan siz)) x (uhL x (f_UH_copy fin it lan siz a i bb j n).2.2 lf kn ik)) := by
  generalize hf : f_UH_copy fin it lan siz a i bb j n = R
  unfold f_UH_copy at hf
  refine Ret.of [(0, .ref x), (1, .int a), (2, .int i), (3, .int bb), (4, .int j), (5, .int n)] (by decide) (Nat.le_of_ble_eq_true rfl) rfl ?_
  rintro Z rfl X Y
  have hv_x : isV (ov (ov h (x + 1) (rowL (x + 1) it lan siz)) x (uhL x fin lf kn ik)) x (uhL x fin lf kn ik) := ov_isV
  have hv_r : isV (ov (ov h (x + 1) (rowL (x + 1) it lan siz)) x (uhL x fin lf kn ik)) (x + 1) (rowL (x + 1) it lan siz) := isV_ov dj_r_x (ov_isV)
  refine r_aload_n X 0 dX7_copy_0 rfl ?_
  refine r_iload_n X 1 dX7_copy_1 rfl ?_
  refine cl_X7_65 X (by decide) dX7_copy_2 (Nat.le_of_ble_eq_true rfl) (hv_x 0 _ rfl) (c_UH_noRow hv_x ) ?_
  refine r_if_ne X 16 dX7_copy_5 rfl (fun cr => ?_) (fun cr => ?_)
  · rw [if_neg cr] at hf
    refine r_ldc X dX7_copy_16 kk_X7_69 ?_
    try subst hf
    exact r_ireturn X Y dX7_copy_18 rfl rfl
  · rw [if_pos cr] at hf
    obtain ⟨r, hr, rfl⟩ := noRow_nat cr
    try simp only [nI_clamp (show r < 2 ^ 31 by omega)] at hf
    refine r_aload_n X 0 dX7_copy_8 rfl ?_
    refine r_iload_n X 3 dX7_copy_9 rfl ?_
    refine cl_X7_65 X (by decide) dX7_copy_10 (Nat.le_of_ble_eq_true rfl) (hv_x 0 _ rfl) (c_UH_noRow hv_x ) ?_
    refine r_if_eq X 19 dX7_copy_13 rfl (fun cs => ?_) (fun cs => ?_)
    · rw [if_pos cs] at hf
      obtain ⟨rb, hrb, rfl⟩ := noRow_nat cs
      try simp only [nI_clamp (show rb < 2 ^ 31 by omega)] at hf
      refine r_aload_n X 0 dX7_copy_19 rfl ?_
      refine gf_X7_10 X dX7_copy_20 (hv_x 0 _ rfl) rfl ?_
      refine r_iload_n X 1 dX7_copy_23 rfl ?_
      refine cl_X7_81 X (by decide) dX7_copy_24 (Nat.le_of_ble_eq_true rfl) (hv_r 0 _ rfl) (c_Rows_isMissing hv_r (by first | assumption | omega)) ?_
      refine r_if_ne X 41 dX7_copy_27 rfl (fun cm => ?_) (fun cm => ?_)
      · rw [if_neg cm] at hf
        refine r_aload_n X 0 dX7_copy_41 rfl ?_
        refine r_iconst X (1 : Int32) dX7_copy_42 (by decide) ?_
        refine cl_X7_70 X (by decide) dX7_copy_43 (Nat.le_of_ble_eq_true rfl) (hv_x 0 _ rfl) (c_UH_found  ) ?_
        obtain ⟨q1, eq1⟩ : ∃ q, q = f_UH_found (1 : Int32) := ⟨_, rfl⟩
        rw [← eq1]
        rw [← eq1] at hf
        rw [lt_eq] at hf
        have hv_x : isV (ov (ov h (x + 1) (rowL (x + 1) it lan siz)) x (uhL x q1.2 lf kn ik)) x (uhL x q1.2 lf kn ik) := ov_isV
        have hv_r : isV (ov (ov h (x + 1) (rowL (x + 1) it lan siz)) x (uhL x q1.2 lf kn ik)) (x + 1) (rowL (x + 1) it lan siz) := isV_ov dj_r_x (ov_isV)
        try subst hf
        exact r_ireturn X Y dX7_copy_46 rfl rfl
      · rw [if_pos cm] at hf
        obtain ⟨mm, hmm, hsm⟩ := miss_nat (hsz _ hr) cm
        refine r_aload_n X 0 dX7_copy_30 rfl ?_
        refine gf_X7_10 X dX7_copy_31 (hv_x 0 _ rfl) rfl ?_
        refine r_iload_n X 3 dX7_copy_34 rfl ?_
        refine cl_X7_81 X (by decide) dX7_copy_35 (Nat.le_of_ble_eq_true rfl) (hv_r 0 _ rfl) (c_Rows_isMissing hv_r (by first | assumption | omega)) ?_
        refine r_if_eq X 47 dX7_copy_38 rfl (fun cn => ?_) (fun cn => ?_)
        · rw [if_pos cn] at hf
          obtain ⟨nn, hnn, hsn⟩ := miss_nat (hsz _ hrb) cn
          refine r_aload_n X 0 dX7_copy_47 rfl ?_
          refine gf_X7_10 X dX7_copy_48 (hv_x 0 _ rfl) rfl ?_
          refine gf_X7_92 X dX7_copy_51 (hv_r 0 _ rfl) rfl ?_
          refine r_iload_n X 1 dX7_copy_54 rfl ?_
          refine r_ialdn X (k0 := r) dX7_copy_55 (hv_r 10 _ rfl) (by omega) (by decide) ?_
          refine r_aload_n X 0 dX7_copy_56 rfl ?_
          refine gf_X7_10 X dX7_copy_57 (hv_x 0 _ rfl) rfl ?_
          refine gf_X7_92 X dX7_copy_60 (hv_r 0 _ rfl) rfl ?_
          refine r_iload_n X 3 dX7_copy_63 rfl ?_
          refine r_ialdn X (k0 := rb) dX7_copy_64 (hv_r 10 _ rfl) (by omega) (by decide) ?_
          refine r_icmp_eq X 74 dX7_copy_65 rfl (fun c1 => ?_) (fun c1 => ?_)
          · rw [if_pos c1] at hf
            refine r_aload_n X 0 dX7_copy_74 rfl ?_
            refine gf_X7_10 X dX7_copy_75 (hv_x 0 _ rfl) rfl ?_
            refine r_iload_n X 1 dX7_copy_78 rfl ?_
            refine r_iload_n X 2 dX7_copy_79 rfl ?_
            refine r_iload X 5 dX7_copy_80 rfl ?_
            refine cl_X7_84 X (by decide) dX7_copy_82 (Nat.le_of_ble_eq_true rfl) (hv_r 0 _ rfl) (c_Rows_lacks hv_r (by first | assumption | omega)) ?_
            refine r_if_ne X 103 dX7_copy_85 rfl (fun cl => ?_) (fun cl => ?_)
            · rw [if_neg cl] at hf
              refine r_aload_n X 0 dX7_copy_103 rfl ?_
              refine r_iconst X (2 : Int32) dX7_copy_104 (by decide) ?_
              refine cl_X7_70 X (by decide) dX7_copy_105 (Nat.le_of_ble_eq_true rfl) (hv_x 0 _ rfl) (c_UH_found  ) ?_
              obtain ⟨q2, eq2⟩ : ∃ q, q = f_UH_found (2 : Int32) := ⟨_, rfl⟩
              rw [← eq2]
              rw [← eq2] at hf
              rw [lt_eq] at hf
              have hv_x : isV (ov (ov h (x + 1) (rowL (x + 1) it lan siz)) x (uhL x q2.2 lf kn ik)) x (uhL x q2.2 lf kn ik) := ov_isV
              have hv_r : isV (ov (ov h (x + 1) (rowL (x + 1) it lan siz)) x (uhL x q2.2 lf kn ik)) (x + 1) (rowL (x + 1) it lan siz) := isV_ov dj_r_x (ov_isV)
              try subst hf
              exact r_ireturn X Y dX7_copy_108 rfl rfl
            · rw [if_pos cl] at hf
              refine r_aload_n X 0 dX7_copy_88 rfl ?_
              refine gf_X7_10 X dX7_copy_89 (hv_x 0 _ rfl) rfl ?_
              refine r_iload_n X 3 dX7_copy_92 rfl ?_
              refine r_iload X 4 dX7_copy_93 rfl ?_
              refine r_iload X 5 dX7_copy_95 rfl ?_
              refine cl_X7_84 X (by decide) dX7_copy_97 (Nat.le_of_ble_eq_true rfl) (hv_r 0 _ rfl) (c_Rows_lacks hv_r (by first | assumption | omega)) ?_
              refine r_if_eq X 109 dX7_copy_100 rfl (fun ck => ?_) (fun ck => ?_)
              · rw [if_pos ck] at hf
                obtain ⟨n0, hn0, rfl⟩ := lacksn_nat hsm hmm cl
                try simp only [nI_clamp (show n0 < 2 ^ 31 by omega)] at hf
                refine r_aload_n X 0 dX7_copy_109 rfl ?_
                obtain ⟨i0, hi0, rfl⟩ := lacksi_nat hsm hmm hn0 cl
                try simp only [nI_clamp (show i0 < 2 ^ 31 by omega)] at hf
                refine gf_X7_10 X dX7_copy_110 (hv_x 0 _ rfl) rfl ?_
                obtain ⟨j0, hj0, rfl⟩ := lacksi_nat hsn hnn hn0 ck
                try simp only [nI_clamp (show j0 < 2 ^ 31 by omega)] at hf
                refine gf_X7_96 X dX7_copy_113 (hv_r 0 _ rfl) rfl ?_
                refine r_iload_n X 1 dX7_copy_116 rfl ?_
                refine r_aald4n X (k0 := r) (x + 1 + (2 + r)) dX7_copy_117 (hv_r 1 _ rfl) (by omega) (by decide) rfl ?_
                refine r_iload_n X 2 dX7_copy_118 rfl ?_
                refine r_aload_n X 0 dX7_copy_119 rfl ?_
                refine gf_X7_10 X dX7_copy_120 (hv_x 0 _ rfl) rfl ?_
                refine gf_X7_96 X dX7_copy_123 (hv_r 0 _ rfl) rfl ?_
                refine r_iload_n X 3 dX7_copy_126 rfl ?_
                refine r_aald4n X (k0 := rb) (x + 1 + (2 + rb)) dX7_copy_127 (hv_r 1 _ rfl) (by omega) (by decide) rfl ?_
                refine r_iload X 4 dX7_copy_128 rfl ?_
                refine r_iload X 5 dX7_copy_130 rfl ?_
                refine ac_X7_100 X (by decide) dX7_copy_132 (Nat.le_of_ble_eq_true rfl) (hv_r (2 + r) _ (rowL_it (by omega))) (hv_r (2 + rb) _ (rowL_it (by omega))) (nI_nneg (by omega)) (nI_nneg (by omega)) (nI_nneg (by omega)) (by rw [nI_clamp (show i0 < 2 ^ 31 by omega), nI_clamp (show n0 < 2 ^ 31 by omega)]; omega) (by rw [nI_clamp (show j0 < 2 ^ 31 by omega), nI_clamp (show n0 < 2 ^ 31 by omega)]; omega) ?_
                refine SW.heq (h2 := (ov (ov h (x + 1) (rowL (x + 1) (va_up it rb (va_cpy (it r) (it rb) i0 j0 n0)) lan siz)) x (uhL x fin lf kn ik))) (by rw [nI_clamp (show i0 < 2 ^ 31 by omega), nI_clamp (show j0 < 2 ^ 31 by omega), nI_clamp (show n0 < 2 ^ 31 by omega)]; exact ov_up2 (n := 12) dj_r_x (2 + rb) (by omega) (ov_up (2 + rb) (show _ < 12 by omega) (rowL_set (by omega)))) ?_
                have hv_x : isV (ov (ov h (x + 1) (rowL (x + 1) (va_up it rb (va_cpy (it r) (it rb) i0 j0 n0)) lan siz)) x (uhL x fin lf kn ik)) x (uhL x fin lf kn ik) := ov_isV
                have hv_r : isV (ov (ov h (x + 1) (rowL (x + 1) (va_up it rb (va_cpy (it r) (it rb) i0 j0 n0)) lan siz)) x (uhL x fin lf kn ik)) (x + 1) (rowL (x + 1) (va_up it rb (va_cpy (it r) (it rb) i0 j0 n0)) lan siz) := isV_ov dj_r_x (ov_isV)
                refine r_aload_n X 0 dX7_copy_135 rfl ?_
                refine r_iload X 5 dX7_copy_136 rfl ?_
                refine cl_X7_78 X (by decide) dX7_copy_138 (Nat.le_of_ble_eq_true rfl) (hv_x 0 _ rfl) (c_UH_well  ) ?_
                obtain ⟨q3, eq3⟩ : ∃ q, q = f_UH_well (nI n0) := ⟨_, rfl⟩
                rw [← eq3]
                rw [← eq3] at hf
                rw [lt_eq] at hf
                have hv_x : isV (ov (ov h (x + 1) (rowL (x + 1) (va_up it rb (va_cpy (it r) (it rb) i0 j0 n0)) lan siz)) x (uhL x q3.2 lf kn ik)) x (uhL x q3.2 lf kn ik) := ov_isV
                have hv_r : isV (ov (ov h (x + 1) (rowL (x + 1) (va_up it rb (va_cpy (it r) (it rb) i0 j0 n0)) lan siz)) x (uhL x q3.2 lf kn ik)) (x + 1) (rowL (x + 1) (va_up it rb (va_cpy (it r) (it rb) i0 j0 n0)) lan siz) := isV_ov dj_r_x (ov_isV)
                try subst hf
                exact r_ireturn X Y dX7_copy_141 rfl rfl
              · rw [if_neg ck] at hf
                refine r_aload_n X 0 dX7_copy_103 rfl ?_
                refine r_iconst X (2 : Int32) dX7_copy_104 (by decide) ?_
                refine cl_X7_70 X (by decide) dX7_copy_105 (Nat.le_of_ble_eq_true rfl) (hv_x 0 _ rfl) (c_UH_found  ) ?_
                obtain ⟨q4, eq4⟩ : ∃ q, q = f_UH_found (2 : Int32) := ⟨_, rfl⟩
                rw [← eq4]
                rw [← eq4] at hf
                rw [lt_eq] at hf
                have hv_x : isV (ov (ov h (x + 1) (rowL (x + 1) it lan siz)) x (uhL x q4.2 lf kn ik)) x (uhL x q4.2 lf kn ik) := ov_isV
                have hv_r : isV (ov (ov h (x + 1) (rowL (x + 1) it lan siz)) x (uhL x q4.2 lf kn ik)) (x + 1) (rowL (x + 1) it lan siz) := isV_ov dj_r_x (ov_isV)
                try subst hf
                exact r_ireturn X Y dX7_copy_108 rfl rfl
          · rw [if_neg c1] at hf
            refine r_aload_n X 0 dX7_copy_68 rfl ?_
            refine r_iconst X (5 : Int32) dX7_copy_69 (by decide) ?_
            refine cl_X7_70 X (by decide) dX7_copy_70 (Nat.le_of_ble_eq_true rfl) (hv_x 0 _ rfl) (c_UH_found  ) ?_
            obtain ⟨q5, eq5⟩ : ∃ q, q = f_UH_found (5 : Int32) := ⟨_, rfl⟩
            rw [← eq5]
            rw [← eq5] at hf
            rw [lt_eq] at hf
            have hv_x : isV (ov (ov h (x + 1) (rowL (x + 1) it lan siz)) x (uhL x q5.2 lf kn ik)) x (uhL x q5.2 lf kn ik) := ov_isV
            have hv_r : isV (ov (ov h (x + 1) (rowL (x + 1) it lan siz)) x (uhL x q5.2 lf kn ik)) (x + 1) (rowL (x + 1) it lan siz) := isV_ov dj_r_x (ov_isV)
            try subst hf
            exact r_ireturn X Y dX7_copy_73 rfl rfl
        · rw [if_neg cn] at hf
          refine r_aload_n X 0 dX7_copy_41 rfl ?_
          refine r_iconst X (1 : Int32) dX7_copy_42 (by decide) ?_
          refine cl_X7_70 X (by decide) dX7_copy_43 (Nat.le_of_ble_eq_true rfl) (hv_x 0 _ rfl) (c_UH_found  ) ?_
          obtain ⟨q6, eq6⟩ : ∃ q, q = f_UH_found (1 : Int32) := ⟨_, rfl⟩
          rw [← eq6]
          rw [← eq6] at hf
          rw [lt_eq] at hf
          have hv_x : isV (ov (ov h (x + 1) (rowL (x + 1) it lan siz)) x (uhL x q6.2 lf kn ik)) x (uhL x q6.2 lf kn ik) := ov_isV
          have hv_r : isV (ov (ov h (x + 1) (rowL (x + 1) it lan siz)) x (uhL x q6.2 lf kn ik)) (x + 1) (rowL (x + 1) it lan siz) := isV_ov dj_r_x (ov_isV)
          try subst hf
          exact r_ireturn X Y dX7_copy_46 rfl rfl
    · rw [if_neg cs] at hf
      refine r_ldc X dX7_copy_16 kk_X7_69 ?_
      try subst hf
      exact r_ireturn X Y dX7_copy_18 rfl rfl

def f_Tape_isFull2 (ln : Nat) : Int32 := if (nI ln) < (120 : Int32) then (0 : Int32) else (1 : Int32)
set_option maxRecDepth 20000 in
set_option maxHeartbeats 4000000 in
theorem c_Tape_isFull2 {G : mG} {h : mHp} {t : Nat} {by_ : Nat → Int32} {ln : Nat} {at_ : Nat} {fl : Int32} (hv_t : isV h t (tapL t by_ ln at_ fl))   : Ret G 0 mX6_isFull [.ref t] h (some (.int (f_Tape_isFull2 ln))) h := by
  generalize hf : f_Tape_isFull2 ln = R
  unfold f_Tape_isFull2 at hf
  refine Ret.of [(0, .ref t)] (by decide) (Nat.le_of_ble_eq_true rfl) rfl ?_
  rintro Z rfl X Y
  refine r_aload_n X 0 dX6_isFull_0 rfl ?_
  refine gf_X6_15 X dX6_isFull_1 (hv_t 0 _ rfl) rfl ?_
  refine r_bipush X (120 : Int32) dX6_isFull_4 (by decide) ?_
  refine m_join (P := SW Z 14 [] [.int (if (nI ln) < (120 : Int32) then (0 : Int32) else (1 : Int32))] h) (fun K => ?_) ?_
  · refine r_icmp_lt X 13 dX6_isFull_6 rfl (fun c1 => ?_) (fun c1 => ?_)
    · skip
      refine r_iconst X (0 : Int32) dX6_isFull_13 (by decide) ?_
      refine SW.pick [] [] rfl ?_
      try simp only [if_pos c1] at K ⊢
      exact K
    · skip
      refine r_iconst X (1 : Int32) dX6_isFull_9 (by decide) ?_
      refine r_goto X 14 dX6_isFull_10 rfl ?_
      refine SW.pick [] [] rfl ?_
      try simp only [if_neg c1] at K ⊢
      exact K
  try subst hf
  exact r_zreturn X Y dX6_isFull_14 (by (repeat' split) <;> first | exact Or.inl rfl | exact Or.inr rfl) rfl rfl

theorem notFull {ln : Nat} (hl : ln ≤ 120) (c : f_Tape_isFull2 ln = 0) : ln < 120 := by
  unfold f_Tape_isFull2 at c
  by_cases q : nI ln < (120 : Int32)
  · exact nI_ltX (b := 120) q (by omega) (by omega)
  · rw [if_neg q] at c
    exact absurd c (by decide)

def f_UH_feed (by_ : Nat → Int32) (ln : Nat) (le : Int32) : Int32 × (Nat → Int32) × Nat := (if le < (0 : Int32) then ((-1000001 : Int32), by_, ln) else (if (255 : Int32) < le then ((-1000001 : Int32), by_, ln) else (if (f_Tape_isFull2 ln) = (0 : Int32) then (lt_ (f_Tape_add by_ ln le) (fun q1 => (q1.1, q1.2.1, q1.2.2))) else ((-1000003 : Int32), by_, ln))))
set_option maxRecDepth 20000 in
set_option maxHeartbeats 4000000 in
theorem c_UH_feed {G : mG} {h : mHp} {x : Nat} {fin : Int32} {lf : Int32} {kn : Int64} {ik : Int32} {by_ : Nat → Int32} {ln : Nat} {at_ : Nat} {fl : Int32} {le : Int32} (hw_x : isV h x (uhL x fin lf kn ik)) (dj_x_t : x + 1 ≤ x + 13 ∨ x + 13 + 2 ≤ x) (hl : ln ≤ 120) : Ret G 1 mX7_feed [.ref x, .int le] (ov h (x + 13) (tapL (x + 13) by_ ln at_ fl)) (some (.int (f_UH_feed by_ ln le).1)) (ov h (x + 13) (tapL (x + 13) (f_UH_feed by_ ln le).2.1 (f_UH_feed by_ ln le).2.2 at_ fl)) := by
  generalize hf : f_UH_feed by_ ln le = R
  unfold f_UH_feed at hf
  refine Ret.of [(0, .ref x), (1, .int le)] (by decide) (Nat.le_of_ble_eq_true rfl) rfl ?_
  rintro Z rfl X Y
  have hv_x : isV (ov h (x + 13) (tapL (x + 13) by_ ln at_ fl)) x (uhL x fin lf kn ik) := isV_ov dj_x_t (hw_x)
  have hv_t : isV (ov h (x + 13) (tapL (x + 13) by_ ln at_ fl)) (x + 13) (tapL (x + 13) by_ ln at_ fl) := ov_isV
  refine r_iload_n X 1 dX7_feed_0 rfl ?_
  refine r_if_lt X 11 dX7_feed_1 rfl (fun c1 => ?_) (fun c1 => ?_)
  · rw [if_pos c1] at hf
    refine r_ldc X dX7_feed_11 kk_X7_69 ?_
    try subst hf
    exact r_ireturn X Y dX7_feed_13 rfl rfl
  · rw [if_neg c1] at hf
    refine r_iload_n X 1 dX7_feed_4 rfl ?_
    refine r_sipush X (255 : Int32) dX7_feed_5 (by decide) ?_
    refine r_icmp_le X 14 dX7_feed_8 rfl (fun c2 => ?_) (fun c2 => ?_)
    · rw [if_neg c2] at hf
      refine r_aload_n X 0 dX7_feed_14 rfl ?_
      refine gf_X7_19 X dX7_feed_15 (hv_x 0 _ rfl) rfl ?_
      refine cl_X7_109 X (by decide) dX7_feed_18 (Nat.le_of_ble_eq_true rfl) (hv_t 0 _ rfl) (c_Tape_isFull2 hv_t ) ?_
      refine r_if_eq X 27 dX7_feed_21 rfl (fun cf => ?_) (fun cf => ?_)
      · rw [if_pos cf] at hf
        have hx := notFull hl cf
        refine r_aload_n X 0 dX7_feed_27 rfl ?_
        refine gf_X7_19 X dX7_feed_28 (hv_x 0 _ rfl) rfl ?_
        refine r_iload_n X 1 dX7_feed_31 rfl ?_
        refine cl_X7_114 X (by decide) dX7_feed_32 (Nat.le_of_ble_eq_true rfl) (hv_t 0 _ rfl) (c_Tape_add  (by first | assumption | omega)) ?_
        obtain ⟨q1, eq1⟩ : ∃ q, q = f_Tape_add by_ ln le := ⟨_, rfl⟩
        rw [← eq1]
        rw [← eq1] at hf
        rw [lt_eq] at hf
        have hv_x : isV (ov h (x + 13) (tapL (x + 13) q1.2.1 q1.2.2 at_ fl)) x (uhL x fin lf kn ik) := isV_ov dj_x_t (hw_x)
        have hv_t : isV (ov h (x + 13) (tapL (x + 13) q1.2.1 q1.2.2 at_ fl)) (x + 13) (tapL (x + 13) q1.2.1 q1.2.2 at_ fl) := ov_isV
        try subst hf
        exact r_ireturn X Y dX7_feed_35 rfl rfl
      · rw [if_neg cf] at hf
        refine r_ldc X dX7_feed_24 kk_X7_113 ?_
        try subst hf
        exact r_ireturn X Y dX7_feed_26 rfl rfl
    · rw [if_pos c2] at hf
      refine r_ldc X dX7_feed_11 kk_X7_69 ?_
      try subst hf
      exact r_ireturn X Y dX7_feed_13 rfl rfl

def f_UH_trace (alf : Nat → Int32) (aln : Nat) (i : Int32) : Int32 := (if i < (0 : Int32) then (-1000000 : Int32) else (if i < (nI aln) then alf (i.toNatClampNeg) else (-1000000 : Int32)))
set_option maxRecDepth 20000 in
set_option maxHeartbeats 4000000 in
theorem c_UH_trace {G : mG} {h : mHp} {x : Nat} {fin : Int32} {lf : Int32} {kn : Int64} {ik : Int32} {alf : Nat → Int32} {aln : Nat} {anm : Int32} {akd : Int32} {ahi : Int32} {aho : Int32} {i : Int32} (hv_x : isV h x (uhL x fin lf kn ik)) (hv_a : isV h (x + 323) (askL (x + 323) alf aln anm akd ahi aho))  (hl : aln ≤ 16) : Ret G 0 mX7_trace [.ref x, .int i] h (some (.int (f_UH_trace alf aln i))) h := by
  generalize hf : f_UH_trace alf aln i = R
  unfold f_UH_trace at hf
  refine Ret.of [(0, .ref x), (1, .int i)] (by decide) (Nat.le_of_ble_eq_true rfl) rfl ?_
  rintro Z rfl X Y
  refine r_iload_n X 1 dX7_trace_0 rfl ?_
  refine r_if_lt X 15 dX7_trace_1 rfl (fun c0 => ?_) (fun c0 => ?_)
  · rw [if_pos c0] at hf
    refine r_ldc X dX7_trace_15 kk_X7_169 ?_
    refine r_goto X 29 dX7_trace_17 rfl ?_
    try subst hf
    exact r_ireturn X Y dX7_trace_29 rfl rfl
  · rw [if_neg c0] at hf
    refine r_iload_n X 1 dX7_trace_4 rfl ?_
    refine r_aload_n X 0 dX7_trace_5 rfl ?_
    refine gf_X7_61 X dX7_trace_6 (hv_x 0 _ rfl) rfl ?_
    refine gf_X7_343 X dX7_trace_9 (hv_a 0 _ rfl) rfl ?_
    refine r_icmp_lt X 20 dX7_trace_12 rfl (fun c1 => ?_) (fun c1 => ?_)
    · rw [if_pos c1] at hf
      obtain ⟨k, hk, rfl⟩ := lt_nat (by omega) c0 c1
      try simp only [nI_clamp (show k < 2 ^ 31 by omega)] at hf
      refine r_aload_n X 0 dX7_trace_20 rfl ?_
      refine gf_X7_61 X dX7_trace_21 (hv_x 0 _ rfl) rfl ?_
      refine gf_X7_344 X dX7_trace_24 (hv_a 0 _ rfl) rfl ?_
      refine r_iload_n X 1 dX7_trace_27 rfl ?_
      refine r_ialdn X (k0 := k) dX7_trace_28 (hv_a 1 _ rfl) (by omega) (by decide) ?_
      try subst hf
      exact r_ireturn X Y dX7_trace_29 rfl rfl
    · rw [if_neg c1] at hf
      refine r_ldc X dX7_trace_15 kk_X7_169 ?_
      refine r_goto X 29 dX7_trace_17 rfl ?_
      try subst hf
      exact r_ireturn X Y dX7_trace_29 rfl rfl

def f_UH_count (siz : Nat → Int32) (H : Nat) (U : Nat) (dem : Nat → Int32) (asz : Nat) (ln : Nat) (wh : Int32) : Int32 := (if wh = (0 : Int32) then (f_Rows_countThere siz) else (if wh = (1 : Int32) then nI U else (if wh = (2 : Int32) then nI H else (if wh = (3 : Int32) then (f_Day_sumDemands H dem) else (if wh = (4 : Int32) then nI asz else (if wh = (5 : Int32) then nI ln else (-1000001 : Int32)))))))
set_option maxRecDepth 20000 in
set_option maxHeartbeats 4000000 in
theorem c_UH_count {G : mG} {h : mHp} {x : Nat} {fin : Int32} {lf : Int32} {kn : Int64} {ik : Int32} {it : Nat → Nat → Int32} {lan : Nat → Int32} {siz : Nat → Int32} {H : Nat} {U : Nat} {res : Int32} {dem : Nat → Int32} {kin : Nat → Int32} {low : Nat → Int32} {hig : Nat → Int32} {pri : Nat → Int32} {sta : Nat → Int32} {ups : Nat → Int32} {dow : Nat → Int32} {onn : Nat → Int32} {ord : Nat → Nat} {flo : Nat → Int32} {sro : Nat → Int32} {sco : Nat → Int32} {afi : Nat} {asz : Nat} {by_ : Nat → Int32} {ln : Nat} {at_ : Nat} {fl : Int32} {wh : Int32} (hv_x : isV h x (uhL x fin lf kn ik)) (hv_r : isV h (x + 1) (rowL (x + 1) it lan siz)) (hv_d : isV h (x + 15) (dayL (x + 15) H U res dem kin low hig pri sta ups dow onn ord flo sro sco)) (hv_c : isV h (x + 72) (actL (x + 72) afi asz)) (hv_t : isV h (x + 13) (tapL (x + 13) by_ ln at_ fl))  (hU : U ≤ 4) (hH : H ≤ 6) : Ret G 2 mX7_count [.ref x, .int wh] h (some (.int (f_UH_count siz H U dem asz ln wh))) h := by
  generalize hf : f_UH_count siz H U dem asz ln wh = R
  unfold f_UH_count at hf
  refine Ret.of [(0, .ref x), (1, .int wh)] (by decide) (Nat.le_of_ble_eq_true rfl) rfl ?_
  rintro Z rfl X Y
  refine r_iload_n X 1 dX7_count_0 rfl ?_
  by_cases c1 : wh = (0 : Int32)
  · rw [if_pos c1] at hf
    refine r_tsin X 40 dX7_count_1 (by rw [c1]; decide) (by rw [c1]; decide) (by rw [c1]; rfl) rfl ?_
    refine r_aload_n X 0 dX7_count_40 rfl ?_
    refine gf_X7_10 X dX7_count_41 (hv_x 0 _ rfl) rfl ?_
    refine cl_X7_347 X (by decide) dX7_count_44 (Nat.le_of_ble_eq_true rfl) (hv_r 0 _ rfl) (c_Rows_countThere hv_r ) ?_
    try subst hf
    exact r_ireturn X Y dX7_count_47 rfl rfl
  · rw [if_neg c1] at hf
    by_cases c2 : wh = (1 : Int32)
    · rw [if_pos c2] at hf
      refine r_tsin X 48 dX7_count_1 (by rw [c2]; decide) (by rw [c2]; decide) (by rw [c2]; rfl) rfl ?_
      refine r_aload_n X 0 dX7_count_48 rfl ?_
      refine gf_X7_26 X dX7_count_49 (hv_x 0 _ rfl) rfl ?_
      refine gf_X7_145 X dX7_count_52 (hv_d 0 _ rfl) rfl ?_
      try subst hf
      exact r_ireturn X Y dX7_count_55 rfl rfl
    · rw [if_neg c2] at hf
      by_cases c3 : wh = (2 : Int32)
      · rw [if_pos c3] at hf
        refine r_tsin X 56 dX7_count_1 (by rw [c3]; decide) (by rw [c3]; decide) (by rw [c3]; rfl) rfl ?_
        refine r_aload_n X 0 dX7_count_56 rfl ?_
        refine gf_X7_26 X dX7_count_57 (hv_x 0 _ rfl) rfl ?_
        refine gf_X7_260 X dX7_count_60 (hv_d 0 _ rfl) rfl ?_
        try subst hf
        exact r_ireturn X Y dX7_count_63 rfl rfl
      · rw [if_neg c3] at hf
        by_cases c4 : wh = (3 : Int32)
        · rw [if_pos c4] at hf
          refine r_tsin X 64 dX7_count_1 (by rw [c4]; decide) (by rw [c4]; decide) (by rw [c4]; rfl) rfl ?_
          refine r_aload_n X 0 dX7_count_64 rfl ?_
          refine gf_X7_26 X dX7_count_65 (hv_x 0 _ rfl) rfl ?_
          refine cl_X7_350 X (by decide) dX7_count_68 (Nat.le_of_ble_eq_true rfl) (hv_d 0 _ rfl) (c_Day_sumDemands hv_d (by first | assumption | omega)) ?_
          try subst hf
          exact r_ireturn X Y dX7_count_71 rfl rfl
        · rw [if_neg c4] at hf
          by_cases c5 : wh = (4 : Int32)
          · rw [if_pos c5] at hf
            refine r_tsin X 72 dX7_count_1 (by rw [c5]; decide) (by rw [c5]; decide) (by rw [c5]; rfl) rfl ?_
            refine r_aload_n X 0 dX7_count_72 rfl ?_
            refine gf_X7_40 X dX7_count_73 (hv_x 0 _ rfl) rfl ?_
            refine gf_X7_200 X dX7_count_76 (hv_c 0 _ rfl) rfl ?_
            try subst hf
            exact r_ireturn X Y dX7_count_79 rfl rfl
          · rw [if_neg c5] at hf
            by_cases c6 : wh = (5 : Int32)
            · rw [if_pos c6] at hf
              refine r_tsin X 80 dX7_count_1 (by rw [c6]; decide) (by rw [c6]; decide) (by rw [c6]; rfl) rfl ?_
              refine r_aload_n X 0 dX7_count_80 rfl ?_
              refine gf_X7_19 X dX7_count_81 (hv_x 0 _ rfl) rfl ?_
              refine gf_X7_121 X dX7_count_84 (hv_t 0 _ rfl) rfl ?_
              try subst hf
              exact r_ireturn X Y dX7_count_87 rfl rfl
            · rw [if_neg c6] at hf
              refine r_tsout X 88 dX7_count_1 (by have a0 : ¬ wh.toInt = 0 := i32_ne c1; have a1 : ¬ wh.toInt = 1 := i32_ne c2; have a2 : ¬ wh.toInt = 2 := i32_ne c3; have a3 : ¬ wh.toInt = 3 := i32_ne c4; have a4 : ¬ wh.toInt = 4 := i32_ne c5; have a5 : ¬ wh.toInt = 5 := i32_ne c6; omega) rfl ?_
              refine r_ldc X dX7_count_88 kk_X7_69 ?_
              try subst hf
              exact r_ireturn X Y dX7_count_90 rfl rfl

def f_UH_ask (U : Nat) (kin : Nat → Int32) (hig : Nat → Int32) (onn : Nat → Int32) (alf : Nat → Int32) (aln : Nat) (anm : Int32) (akd : Int32) (ahi : Int32) (aho : Int32) (u : Int32) (wh : Int32) : Int32 × (Nat → Int32) × Nat × Int32 × Int32 × Int32 × Int32 := (if (f_UH_noUnit U u) = (0 : Int32) then (if wh < (0 : Int32) then ((-1000001 : Int32), alf, aln, anm, akd, ahi, aho) else (if (1 : Int32) < wh then ((-1000001 : Int32), alf, aln, anm, akd, ahi, aho) else (lt_ (f_Asks_begin kin hig onn (u.toNatClampNeg)) (fun q1 => (if wh = (0 : Int32) then (lt_ (f_Asks_sizeOf alf q1.1 q1.2.1 q1.2.2.1 q1.2.2.2.1 q1.2.2.2.2) (fun q3 => q3.1)) else (lt_ (f_Asks_markOf alf q1.1 q1.2.1 q1.2.2.1 q1.2.2.2.1 q1.2.2.2.2) (fun q2 => q2.1)), (if wh = (0 : Int32) then (lt_ (f_Asks_sizeOf alf q1.1 q1.2.1 q1.2.2.1 q1.2.2.2.1 q1.2.2.2.2) (fun q3 => q3.2.1)) else (lt_ (f_Asks_markOf alf q1.1 q1.2.1 q1.2.2.1 q1.2.2.2.1 q1.2.2.2.2) (fun q2 => q2.2.1))), (if wh = (0 : Int32) then (lt_ (f_Asks_sizeOf alf q1.1 q1.2.1 q1.2.2.1 q1.2.2.2.1 q1.2.2.2.2) (fun q3 => q3.2.2)) else (lt_ (f_Asks_markOf alf q1.1 q1.2.1 q1.2.2.1 q1.2.2.2.1 q1.2.2.2.2) (fun q2 => q2.2.2))), q1.2.1, q1.2.2.1, q1.2.2.2.1, q1.2.2.2.2))))) else ((-1000001 : Int32), alf, aln, anm, akd, ahi, aho))
set_option maxRecDepth 20000 in
set_option maxHeartbeats 4000000 in
theorem c_UH_ask {G : mG} {h : mHp} {x : Nat} {fin : Int32} {lf : Int32} {kn : Int64} {ik : Int32} {H : Nat} {U : Nat} {res : Int32} {dem : Nat → Int32} {kin : Nat → Int32} {low : Nat → Int32} {hig : Nat → Int32} {pri : Nat → Int32} {sta : Nat → Int32} {ups : Nat → Int32} {dow : Nat → Int32} {onn : Nat → Int32} {ord : Nat → Nat} {flo : Nat → Int32} {sro : Nat → Int32} {sco : Nat → Int32} {alf : Nat → Int32} {aln : Nat} {anm : Int32} {akd : Int32} {ahi : Int32} {aho : Int32} {u : Int32} {wh : Int32} (hw_x : isV h x (uhL x fin lf kn ik)) (hw_d : isV h (x + 15) (dayL (x + 15) H U res dem kin low hig pri sta ups dow onn ord flo sro sco)) (dj_x_a : x + 1 ≤ x + 323 ∨ x + 323 + 2 ≤ x) (dj_d_a : x + 15 + 14 ≤ x + 323 ∨ x + 323 + 2 ≤ x + 15) (hU : U ≤ 4) (hl : aln ≤ 16) : Ret G 6 mX7_ask [.ref x, .int u, .int wh] (ov h (x + 323) (askL (x + 323) alf aln anm akd ahi aho)) (some (.int (f_UH_ask U kin hig onn alf aln anm akd ahi aho u wh).1)) (ov h (x + 323) (askL (x + 323) (f_UH_ask U kin hig onn alf aln anm akd ahi aho u wh).2.1 (f_UH_ask U kin hig onn alf aln anm akd ahi aho u wh).2.2.1 (f_UH_ask U kin hig onn alf aln anm akd ahi aho u wh).2.2.2.1 (f_UH_ask U kin hig onn alf aln anm akd ahi aho u wh).2.2.2.2.1 (f_UH_ask U kin hig onn alf aln anm akd ahi aho u wh).2.2.2.2.2.1 (f_UH_ask U kin hig onn alf aln anm akd ahi aho u wh).2.2.2.2.2.2)) := by
  generalize hf : f_UH_ask U kin hig onn alf aln anm akd ahi aho u wh = R
  unfold f_UH_ask at hf
  refine Ret.of [(0, .ref x), (1, .int u), (2, .int wh)] (by decide) (Nat.le_of_ble_eq_true rfl) rfl ?_
  rintro Z rfl X Y
  have hv_x : isV (ov h (x + 323) (askL (x + 323) alf aln anm akd ahi aho)) x (uhL x fin lf kn ik) := isV_ov dj_x_a (hw_x)
  have hv_d : isV (ov h (x + 323) (askL (x + 323) alf aln anm akd ahi aho)) (x + 15) (dayL (x + 15) H U res dem kin low hig pri sta ups dow onn ord flo sro sco) := isV_ov dj_d_a (hw_d)
  have hv_a : isV (ov h (x + 323) (askL (x + 323) alf aln anm akd ahi aho)) (x + 323) (askL (x + 323) alf aln anm akd ahi aho) := ov_isV
  refine r_aload_n X 0 dX7_ask_0 rfl ?_
  refine r_iload_n X 1 dX7_ask_1 rfl ?_
  refine cl_X7_148 X (by decide) dX7_ask_2 (Nat.le_of_ble_eq_true rfl) (hv_x 0 _ rfl) (c_UH_noUnit hv_x hv_d ) ?_
  refine r_if_ne X 17 dX7_ask_5 rfl (fun cu => ?_) (fun cu => ?_)
  · rw [if_neg cu] at hf
    refine r_ldc X dX7_ask_17 kk_X7_69 ?_
    try subst hf
    exact r_ireturn X Y dX7_ask_19 rfl rfl
  · rw [if_pos cu] at hf
    obtain ⟨k, hk, rfl⟩ := noUnit_nat hU cu
    try simp only [nI_clamp (show k < 2 ^ 31 by omega)] at hf
    refine r_iload_n X 2 dX7_ask_8 rfl ?_
    refine r_if_lt X 17 dX7_ask_9 rfl (fun c1 => ?_) (fun c1 => ?_)
    · rw [if_pos c1] at hf
      refine r_ldc X dX7_ask_17 kk_X7_69 ?_
      try subst hf
      exact r_ireturn X Y dX7_ask_19 rfl rfl
    · rw [if_neg c1] at hf
      refine r_iload_n X 2 dX7_ask_12 rfl ?_
      refine r_iconst X (1 : Int32) dX7_ask_13 (by decide) ?_
      refine r_icmp_le X 20 dX7_ask_14 rfl (fun c2 => ?_) (fun c2 => ?_)
      · rw [if_neg c2] at hf
        refine r_aload_n X 0 dX7_ask_20 rfl ?_
        refine gf_X7_61 X dX7_ask_21 (hv_x 0 _ rfl) rfl ?_
        refine r_aload_n X 0 dX7_ask_24 rfl ?_
        refine gf_X7_26 X dX7_ask_25 (hv_x 0 _ rfl) rfl ?_
        refine r_iload_n X 1 dX7_ask_28 rfl ?_
        refine cl_X7_334 X (by decide) dX7_ask_29 (Nat.le_of_ble_eq_true rfl) (hv_a 0 _ rfl) (c_Asks_begin hw_d (by first | assumption | omega) (by first | assumption | omega)) ?_
        obtain ⟨q1, eq1⟩ : ∃ q, q = f_Asks_begin kin hig onn k := ⟨_, rfl⟩
        rw [← eq1]
        rw [← eq1] at hf
        rw [lt_eq] at hf
        have hl_q1 : q1.1 ≤ 16 := by rw [eq1]; exact (show (0 : Nat) ≤ 16 from Nat.zero_le _)
        have hv_x : isV (ov h (x + 323) (askL (x + 323) alf q1.1 q1.2.1 q1.2.2.1 q1.2.2.2.1 q1.2.2.2.2)) x (uhL x fin lf kn ik) := isV_ov dj_x_a (hw_x)
        have hv_d : isV (ov h (x + 323) (askL (x + 323) alf q1.1 q1.2.1 q1.2.2.1 q1.2.2.2.1 q1.2.2.2.2)) (x + 15) (dayL (x + 15) H U res dem kin low hig pri sta ups dow onn ord flo sro sco) := isV_ov dj_d_a (hw_d)
        have hv_a : isV (ov h (x + 323) (askL (x + 323) alf q1.1 q1.2.1 q1.2.2.1 q1.2.2.2.1 q1.2.2.2.2)) (x + 323) (askL (x + 323) alf q1.1 q1.2.1 q1.2.2.1 q1.2.2.2.1 q1.2.2.2.2) := ov_isV
        have hz : 0 ≤ 16 := Nat.zero_le _
        refine r_iload_n X 2 dX7_ask_32 rfl ?_
        refine m_join (P := SW Z 53 [] [.int (if wh = (0 : Int32) then (lt_ (f_Asks_sizeOf alf q1.1 q1.2.1 q1.2.2.1 q1.2.2.2.1 q1.2.2.2.2) (fun q3 => q3.1)) else (lt_ (f_Asks_markOf alf q1.1 q1.2.1 q1.2.2.1 q1.2.2.2.1 q1.2.2.2.2) (fun q2 => q2.1)))] (ov h (x + 323) (askL (x + 323) (if wh = (0 : Int32) then (lt_ (f_Asks_sizeOf alf q1.1 q1.2.1 q1.2.2.1 q1.2.2.2.1 q1.2.2.2.2) (fun q3 => q3.2.1)) else (lt_ (f_Asks_markOf alf q1.1 q1.2.1 q1.2.2.1 q1.2.2.2.1 q1.2.2.2.2) (fun q2 => q2.2.1))) (if wh = (0 : Int32) then (lt_ (f_Asks_sizeOf alf q1.1 q1.2.1 q1.2.2.1 q1.2.2.2.1 q1.2.2.2.2) (fun q3 => q3.2.2)) else (lt_ (f_Asks_markOf alf q1.1 q1.2.1 q1.2.2.1 q1.2.2.2.1 q1.2.2.2.2) (fun q2 => q2.2.2))) q1.2.1 q1.2.2.1 q1.2.2.2.1 q1.2.2.2.2))) (fun K => ?_) ?_
        · refine r_if_ne X 46 dX7_ask_33 rfl (fun c3 => ?_) (fun c3 => ?_)
          · skip
            refine r_aload_n X 0 dX7_ask_46 rfl ?_
            refine gf_X7_61 X dX7_ask_47 (hv_x 0 _ rfl) rfl ?_
            refine cl_X7_340 X (by decide) dX7_ask_50 (Nat.le_of_ble_eq_true rfl) (hv_a 0 _ rfl) (c_Asks_markOf  (by assumption)) ?_
            obtain ⟨q2, eq2⟩ : ∃ q, q = f_Asks_markOf alf q1.1 q1.2.1 q1.2.2.1 q1.2.2.2.1 q1.2.2.2.2 := ⟨_, rfl⟩
            rw [← eq2]
            have hl_q2 : q2.2.2 ≤ 16 := by rw [eq2]; exact Asks_markOf_le (by assumption)
            have hv_x : isV (ov h (x + 323) (askL (x + 323) q2.2.1 q2.2.2 q1.2.1 q1.2.2.1 q1.2.2.2.1 q1.2.2.2.2)) x (uhL x fin lf kn ik) := isV_ov dj_x_a (hw_x)
            have hv_d : isV (ov h (x + 323) (askL (x + 323) q2.2.1 q2.2.2 q1.2.1 q1.2.2.1 q1.2.2.2.1 q1.2.2.2.2)) (x + 15) (dayL (x + 15) H U res dem kin low hig pri sta ups dow onn ord flo sro sco) := isV_ov dj_d_a (hw_d)
            have hv_a : isV (ov h (x + 323) (askL (x + 323) q2.2.1 q2.2.2 q1.2.1 q1.2.2.1 q1.2.2.2.1 q1.2.2.2.2)) (x + 323) (askL (x + 323) q2.2.1 q2.2.2 q1.2.1 q1.2.2.1 q1.2.2.2.1 q1.2.2.2.2) := ov_isV
            subst eq2
            refine SW.pick [] [] rfl ?_
            try simp only [if_neg c3] at K ⊢
            exact K
          · skip
            refine r_aload_n X 0 dX7_ask_36 rfl ?_
            refine gf_X7_61 X dX7_ask_37 (hv_x 0 _ rfl) rfl ?_
            refine cl_X7_337 X (by decide) dX7_ask_40 (Nat.le_of_ble_eq_true rfl) (hv_a 0 _ rfl) (c_Asks_sizeOf  (by assumption)) ?_
            obtain ⟨q3, eq3⟩ : ∃ q, q = f_Asks_sizeOf alf q1.1 q1.2.1 q1.2.2.1 q1.2.2.2.1 q1.2.2.2.2 := ⟨_, rfl⟩
            rw [← eq3]
            have hl_q3 : q3.2.2 ≤ 16 := by rw [eq3]; exact Asks_sizeOf_le (by assumption)
            have hv_x : isV (ov h (x + 323) (askL (x + 323) q3.2.1 q3.2.2 q1.2.1 q1.2.2.1 q1.2.2.2.1 q1.2.2.2.2)) x (uhL x fin lf kn ik) := isV_ov dj_x_a (hw_x)
            have hv_d : isV (ov h (x + 323) (askL (x + 323) q3.2.1 q3.2.2 q1.2.1 q1.2.2.1 q1.2.2.2.1 q1.2.2.2.2)) (x + 15) (dayL (x + 15) H U res dem kin low hig pri sta ups dow onn ord flo sro sco) := isV_ov dj_d_a (hw_d)
            have hv_a : isV (ov h (x + 323) (askL (x + 323) q3.2.1 q3.2.2 q1.2.1 q1.2.2.1 q1.2.2.2.1 q1.2.2.2.2)) (x + 323) (askL (x + 323) q3.2.1 q3.2.2 q1.2.1 q1.2.2.1 q1.2.2.2.1 q1.2.2.2.2) := ov_isV
            refine r_goto X 53 dX7_ask_43 rfl ?_
            subst eq3
            refine SW.pick [] [] rfl ?_
            try simp only [if_pos c3] at K ⊢
            exact K
        have hv_x : isV (ov h (x + 323) (askL (x + 323) (if wh = (0 : Int32) then (lt_ (f_Asks_sizeOf alf q1.1 q1.2.1 q1.2.2.1 q1.2.2.2.1 q1.2.2.2.2) (fun q3 => q3.2.1)) else (lt_ (f_Asks_markOf alf q1.1 q1.2.1 q1.2.2.1 q1.2.2.2.1 q1.2.2.2.2) (fun q2 => q2.2.1))) (if wh = (0 : Int32) then (lt_ (f_Asks_sizeOf alf q1.1 q1.2.1 q1.2.2.1 q1.2.2.2.1 q1.2.2.2.2) (fun q3 => q3.2.2)) else (lt_ (f_Asks_markOf alf q1.1 q1.2.1 q1.2.2.1 q1.2.2.2.1 q1.2.2.2.2) (fun q2 => q2.2.2))) q1.2.1 q1.2.2.1 q1.2.2.2.1 q1.2.2.2.2)) x (uhL x fin lf kn ik) := isV_ov dj_x_a (hw_x)
        have hv_d : isV (ov h (x + 323) (askL (x + 323) (if wh = (0 : Int32) then (lt_ (f_Asks_sizeOf alf q1.1 q1.2.1 q1.2.2.1 q1.2.2.2.1 q1.2.2.2.2) (fun q3 => q3.2.1)) else (lt_ (f_Asks_markOf alf q1.1 q1.2.1 q1.2.2.1 q1.2.2.2.1 q1.2.2.2.2) (fun q2 => q2.2.1))) (if wh = (0 : Int32) then (lt_ (f_Asks_sizeOf alf q1.1 q1.2.1 q1.2.2.1 q1.2.2.2.1 q1.2.2.2.2) (fun q3 => q3.2.2)) else (lt_ (f_Asks_markOf alf q1.1 q1.2.1 q1.2.2.1 q1.2.2.2.1 q1.2.2.2.2) (fun q2 => q2.2.2))) q1.2.1 q1.2.2.1 q1.2.2.2.1 q1.2.2.2.2)) (x + 15) (dayL (x + 15) H U res dem kin low hig pri sta ups dow onn ord flo sro sco) := isV_ov dj_d_a (hw_d)
        have hv_a : isV (ov h (x + 323) (askL (x + 323) (if wh = (0 : Int32) then (lt_ (f_Asks_sizeOf alf q1.1 q1.2.1 q1.2.2.1 q1.2.2.2.1 q1.2.2.2.2) (fun q3 => q3.2.1)) else (lt_ (f_Asks_markOf alf q1.1 q1.2.1 q1.2.2.1 q1.2.2.2.1 q1.2.2.2.2) (fun q2 => q2.2.1))) (if wh = (0 : Int32) then (lt_ (f_Asks_sizeOf alf q1.1 q1.2.1 q1.2.2.1 q1.2.2.2.1 q1.2.2.2.2) (fun q3 => q3.2.2)) else (lt_ (f_Asks_markOf alf q1.1 q1.2.1 q1.2.2.1 q1.2.2.2.1 q1.2.2.2.2) (fun q2 => q2.2.2))) q1.2.1 q1.2.2.1 q1.2.2.2.1 q1.2.2.2.2)) (x + 323) (askL (x + 323) (if wh = (0 : Int32) then (lt_ (f_Asks_sizeOf alf q1.1 q1.2.1 q1.2.2.1 q1.2.2.2.1 q1.2.2.2.2) (fun q3 => q3.2.1)) else (lt_ (f_Asks_markOf alf q1.1 q1.2.1 q1.2.2.1 q1.2.2.2.1 q1.2.2.2.2) (fun q2 => q2.2.1))) (if wh = (0 : Int32) then (lt_ (f_Asks_sizeOf alf q1.1 q1.2.1 q1.2.2.1 q1.2.2.2.1 q1.2.2.2.2) (fun q3 => q3.2.2)) else (lt_ (f_Asks_markOf alf q1.1 q1.2.1 q1.2.2.1 q1.2.2.2.1 q1.2.2.2.2) (fun q2 => q2.2.2))) q1.2.1 q1.2.2.1 q1.2.2.2.1 q1.2.2.2.2) := ov_isV
        try subst hf
        exact r_ireturn X Y dX7_ask_53 rfl rfl
      · rw [if_pos c2] at hf
        refine r_ldc X dX7_ask_17 kk_X7_69 ?_
        try subst hf
        exact r_ireturn X Y dX7_ask_19 rfl rfl
