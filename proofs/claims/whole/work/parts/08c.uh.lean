theorem noRow_nat {r : Int32} (h : f_UH_noRow r = 0) : ∃ k, k < 8 ∧ r = nI k := by
  unfold f_UH_noRow at h
  by_cases c1 : r < 0
  · rw [if_pos c1] at h; exact absurd h (by decide)
  · rw [if_neg c1] at h
    by_cases c2 : r < (8 : Int32)
    · obtain ⟨j, hj, rfl⟩ := nI_of c1
      exact ⟨j, nI_ltX (b := 8) c2 hj (by omega), rfl⟩
    · rw [if_neg c2] at h; exact absurd h (by decide)

def f_UH_drop (fin : Int32) (siz : Nat → Int32) (row : Int32) : Int32 × (Nat → Int32) × Int32 := (if (f_UH_noRow row) = (0 : Int32) then (if (f_Rows_isMissing siz (row.toNatClampNeg)) = (0 : Int32) then (lt_ (f_Rows_lose siz (row.toNatClampNeg)) (fun q1 => (lt_ (f_UH_well q1.1) (fun q2 => (q2.1, q1.2, q2.2))))) else (lt_ (f_UH_found (1 : Int32)) (fun q3 => (q3.1, siz, q3.2)))) else ((-1000001 : Int32), siz, fin))
set_option maxRecDepth 20000 in
set_option maxHeartbeats 4000000 in
theorem c_UH_drop {G : mG} {h : mHp} {x : Nat} {fin : Int32} {lf : Int32} {kn : Int64} {ik : Int32} {it : Nat → Nat → Int32} {lan : Nat → Int32} {siz : Nat → Int32} {row : Int32}  (dj_r_x : x + 1 + 12 ≤ x ∨ x + 1 ≤ x + 1) (dj_x_r : x + 1 ≤ x + 1 ∨ x + 1 + 12 ≤ x)  : Ret G 1 mX7_drop [.ref x, .int row] (ov (ov h (x + 1) (rowL (x + 1) it lan siz)) x (uhL x fin lf kn ik)) (some (.int (f_UH_drop fin siz row).1)) (ov (ov h (x + 1) (rowL (x + 1) it lan (f_UH_drop fin siz row).2.1)) x (uhL x (f_UH_drop fin siz row).2.2 lf kn ik)) := by
  generalize hf : f_UH_drop fin siz row = R
  unfold f_UH_drop at hf
  refine Ret.of [(0, .ref x), (1, .int row)] (by decide) (Nat.le_of_ble_eq_true rfl) rfl ?_
  rintro Z rfl X Y
  have hv_x : isV (ov (ov h (x + 1) (rowL (x + 1) it lan siz)) x (uhL x fin lf kn ik)) x (uhL x fin lf kn ik) := ov_isV
  have hv_r : isV (ov (ov h (x + 1) (rowL (x + 1) it lan siz)) x (uhL x fin lf kn ik)) (x + 1) (rowL (x + 1) it lan siz) := isV_ov dj_r_x (ov_isV)
  refine r_aload_n X 0 dX7_drop_0 rfl ?_
  refine r_iload_n X 1 dX7_drop_1 rfl ?_
  refine cl_X7_65 X (by decide) dX7_drop_2 (Nat.le_of_ble_eq_true rfl) (hv_x 0 _ rfl) (c_UH_noRow hv_x ) ?_
  refine r_if_eq X 11 dX7_drop_5 rfl (fun cr => ?_) (fun cr => ?_)
  · rw [if_pos cr] at hf
    obtain ⟨r, hr, rfl⟩ := noRow_nat cr
    try simp only [nI_clamp (show r < 2 ^ 31 by omega)] at hf
    refine r_aload_n X 0 dX7_drop_11 rfl ?_
    refine gf_X7_10 X dX7_drop_12 (hv_x 0 _ rfl) rfl ?_
    refine r_iload_n X 1 dX7_drop_15 rfl ?_
    refine cl_X7_81 X (by decide) dX7_drop_16 (Nat.le_of_ble_eq_true rfl) (hv_r 0 _ rfl) (c_Rows_isMissing hv_r (by first | assumption | omega)) ?_
    refine r_if_eq X 28 dX7_drop_19 rfl (fun c1 => ?_) (fun c1 => ?_)
    · rw [if_pos c1] at hf
      refine r_aload_n X 0 dX7_drop_28 rfl ?_
      refine r_aload_n X 0 dX7_drop_29 rfl ?_
      refine gf_X7_10 X dX7_drop_30 (hv_x 0 _ rfl) rfl ?_
      refine r_iload_n X 1 dX7_drop_33 rfl ?_
      refine cl_X7_106 X (by decide) dX7_drop_34 (Nat.le_of_ble_eq_true rfl) (hv_r 0 _ rfl) (Ret.hyp hv_r (c_Rows_lose  (by first | assumption | omega))) ?_
      obtain ⟨q1, eq1⟩ : ∃ q, q = f_Rows_lose siz r := ⟨_, rfl⟩
      rw [← eq1]
      rw [← eq1] at hf
      rw [lt_eq] at hf
      refine SW.heq (h2 := (ov (ov h (x + 1) (rowL (x + 1) it lan q1.2)) x (uhL x fin lf kn ik))) (ov_step dj_r_x (ov_ov rfl)) ?_
      have hv_x : isV (ov (ov h (x + 1) (rowL (x + 1) it lan q1.2)) x (uhL x fin lf kn ik)) x (uhL x fin lf kn ik) := ov_isV
      have hv_r : isV (ov (ov h (x + 1) (rowL (x + 1) it lan q1.2)) x (uhL x fin lf kn ik)) (x + 1) (rowL (x + 1) it lan q1.2) := isV_ov dj_r_x (ov_isV)
      refine cl_X7_78 X (by decide) dX7_drop_37 (Nat.le_of_ble_eq_true rfl) (hv_x 0 _ rfl) (c_UH_well  ) ?_
      obtain ⟨q2, eq2⟩ : ∃ q, q = f_UH_well q1.1 := ⟨_, rfl⟩
      rw [← eq2]
      rw [← eq2] at hf
      rw [lt_eq] at hf
      have hv_x : isV (ov (ov h (x + 1) (rowL (x + 1) it lan q1.2)) x (uhL x q2.2 lf kn ik)) x (uhL x q2.2 lf kn ik) := ov_isV
      have hv_r : isV (ov (ov h (x + 1) (rowL (x + 1) it lan q1.2)) x (uhL x q2.2 lf kn ik)) (x + 1) (rowL (x + 1) it lan q1.2) := isV_ov dj_r_x (ov_isV)
      try subst hf
      exact r_ireturn X Y dX7_drop_40 rfl rfl
    · rw [if_neg c1] at hf
      refine r_aload_n X 0 dX7_drop_22 rfl ?_
      refine r_iconst X (1 : Int32) dX7_drop_23 (by decide) ?_
      refine cl_X7_70 X (by decide) dX7_drop_24 (Nat.le_of_ble_eq_true rfl) (hv_x 0 _ rfl) (c_UH_found  ) ?_
      obtain ⟨q3, eq3⟩ : ∃ q, q = f_UH_found (1 : Int32) := ⟨_, rfl⟩
      rw [← eq3]
      rw [← eq3] at hf
      rw [lt_eq] at hf
      have hv_x : isV (ov (ov h (x + 1) (rowL (x + 1) it lan siz)) x (uhL x q3.2 lf kn ik)) x (uhL x q3.2 lf kn ik) := ov_isV
      have hv_r : isV (ov (ov h (x + 1) (rowL (x + 1) it lan siz)) x (uhL x q3.2 lf kn ik)) (x + 1) (rowL (x + 1) it lan siz) := isV_ov dj_r_x (ov_isV)
      try subst hf
      exact r_ireturn X Y dX7_drop_27 rfl rfl
  · rw [if_neg cr] at hf
    refine r_ldc X dX7_drop_8 kk_X7_69 ?_
    try subst hf
    exact r_ireturn X Y dX7_drop_10 rfl rfl

theorem lacks_nat {siz : Nat → Int32} {w : Nat} {i : Int32} {m : Nat} (hs : siz w = nI m) (hm : m ≤ 40) (h : f_Rows_lacks siz w i 1 = 0) : ∃ k, k < m ∧ i = nI k := by
  unfold f_Rows_lacks at h
  rw [hs] at h
  by_cases c1 : i < 0
  · rw [if_pos c1] at h; exact absurd h (by decide)
  · rw [if_neg c1] at h
    rw [if_neg (by decide)] at h
    by_cases c3 : nI m < i
    · rw [if_pos c3] at h; exact absurd h (by decide)
    · rw [if_neg c3] at h
      obtain ⟨j, hj, rfl⟩ := nI_of c1
      have hjm : j ≤ m := by
        rcases Nat.lt_or_ge m j with q | q
        · exact absurd (nI_lt q hj) c3
        · exact q
      rw [pk_sub hjm] at h
      by_cases c4 : nI (m - j) < (1 : Int32)
      · rw [if_pos c4] at h; exact absurd h (by decide)
      · refine ⟨j, ?_, rfl⟩
        rcases Nat.lt_or_ge j m with q | q
        · exact q
        · exact absurd (show nI (m - j) < 1 by rw [show m - j = 0 by omega]; decide) c4
