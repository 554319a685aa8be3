def f_Model_plainMark (W : Nat → Nat → Int32) (trc : Nat → Int32) (ntr : Nat) (u : Nat) : Int32 × (Nat → Int32) × Nat := (if (f_Model_kindIn W u) = (1 : Int32) then ((fun q1 => ((fun q2 => (if (f_Model_kindIn W u) = (2 : Int32) then (2 : Int32) * ((nI u) + (f_Model_ones ((W 0) ((9 + (8 * u)) + 7)))) else if (f_Model_kindIn W u) = (3 : Int32) then ((nI u) + (f_Model_ones ((W 0) ((9 + (8 * u)) + 7)))) - (1000 : Int32) else (nI u) + (f_Model_ones ((W 0) ((9 + (8 * u)) + 7))), q2.1, q2.2)) (f_Model_begins q1.1 q1.2 (20 : Int32)))) (f_Model_begins trc ntr (21 : Int32))) else ((fun q3 => ((fun q4 => ((fun q5 => (if (f_Model_kindIn W u) = (2 : Int32) then (2 : Int32) * ((nI u) + (f_Model_ones ((W 0) ((9 + (8 * u)) + 7)))) else if (f_Model_kindIn W u) = (3 : Int32) then ((nI u) + (f_Model_ones ((W 0) ((9 + (8 * u)) + 7)))) - (1000 : Int32) else (nI u) + (f_Model_ones ((W 0) ((9 + (8 * u)) + 7))), q5.1, q5.2)) (f_Model_begins q4.1 q4.2 (20 : Int32)))) (f_Model_begins q3.1 q3.2 (21 : Int32)))) (f_Model_begins trc ntr (if (f_Model_kindIn W u) = (2 : Int32) then (24 : Int32) else (22 : Int32)))))
set_option maxRecDepth 20000 in
set_option maxHeartbeats 4000000 in
theorem c_Model_plainMark {G : mG} {h : mHp} {b : Nat} {lane : Nat → Int32} {many : Nat → Nat} {items : Nat → Int32} {spare : Nat → Int32} {stat : Int32} {tape : Nat → Int32} {taped : Nat} {fk : Int32} {fp : Int32} {mat : Nat} {mst : Nat} {tok : Int32} {mval : Int32} {W : Nat → Nat → Int32} {past : Nat → Int32} {nac : Nat} {imgs : Nat → Int32} {kept : Nat → Int32} {gvn : Nat → Int32} {costs : Nat → Int32} {lst : Nat → Int32} {sets : Nat → Int32} {bst : Int32} {mlo : Int64} {mal : Int32} {mpr : Nat → Int64} {lak : Nat → Int64} {trc : Nat → Int32} {ntr : Nat} {u : Nat}   (hu : u < 4) (ht : ntr ≤ 16) : Ret G 1 mX8_plainMark [.ref b, .int (nI u)] (ov h b (modL b lane many items spare stat tape taped fk fp mat mst tok mval W past nac imgs kept gvn costs lst sets bst mlo mal mpr lak trc ntr)) (some (.int (f_Model_plainMark W trc ntr u).1)) (ov h b (modL b lane many items spare stat tape taped fk fp mat mst tok mval W past nac imgs kept gvn costs lst sets bst mlo mal mpr lak (f_Model_plainMark W trc ntr u).2.1 (f_Model_plainMark W trc ntr u).2.2)) := by
  generalize hf : f_Model_plainMark W trc ntr u = R
  unfold f_Model_plainMark at hf
  refine Ret.of [(0, .ref b), (1, .int (nI u))] (by decide) (Nat.le_of_ble_eq_true rfl) rfl ?_
  rintro Z rfl X Y
  have hv_b : isV (ov h b (modL b lane many items spare stat tape taped fk fp mat mst tok mval W past nac imgs kept gvn costs lst sets bst mlo mal mpr lak trc ntr)) b (modL b lane many items spare stat tape taped fk fp mat mst tok mval W past nac imgs kept gvn costs lst sets bst mlo mal mpr lak trc ntr) := ov_isV
  refine r_aload_n X 0 dX8_plainMark_0 rfl ?_
  refine r_iload_n X 1 dX8_plainMark_1 rfl ?_
  refine cl_X8_295 X (by decide) dX8_plainMark_2 (Nat.le_of_ble_eq_true rfl) (hv_b 0 _ rfl) (c_Model_kindIn hv_b (by first | assumption | omega)) ?_
  refine r_istore_n [(0, .ref b), (1, .int (nI u)), (2, .int (f_Model_kindIn W u))] X dX8_plainMark_5 rfl (by decide) rfl ?_
  refine r_iload_n X 2 dX8_plainMark_6 rfl ?_
  refine r_iconst X (1 : Int32) dX8_plainMark_7 (by decide) ?_
  refine r_icmp_eq X 27 dX8_plainMark_8 rfl (fun c1 => ?_) (fun c1 => ?_)
  · rw [if_pos c1] at hf
    refine r_aload_n X 0 dX8_plainMark_27 rfl ?_
    refine r_bipush X (21 : Int32) dX8_plainMark_28 (by decide) ?_
    refine cl_X8_301 X (by decide) dX8_plainMark_30 (Nat.le_of_ble_eq_true rfl) (hv_b 0 _ rfl) (c_Model_begins  (by assumption)) ?_
    obtain ⟨q1, eq1⟩ : ∃ q, q = f_Model_begins trc ntr (21 : Int32) := ⟨_, rfl⟩
    rw [← eq1]
    rw [← eq1] at hf
    try dsimp only at hf
    have ht_q1 : q1.2 ≤ 16 := by rw [eq1]; exact begins_le (by assumption)
    have hv_b : isV (ov h b (modL b lane many items spare stat tape taped fk fp mat mst tok mval W past nac imgs kept gvn costs lst sets bst mlo mal mpr lak q1.1 q1.2)) b (modL b lane many items spare stat tape taped fk fp mat mst tok mval W past nac imgs kept gvn costs lst sets bst mlo mal mpr lak q1.1 q1.2) := ov_isV
    refine r_aload_n X 0 dX8_plainMark_33 rfl ?_
    refine r_bipush X (20 : Int32) dX8_plainMark_34 (by decide) ?_
    refine cl_X8_301 X (by decide) dX8_plainMark_36 (Nat.le_of_ble_eq_true rfl) (hv_b 0 _ rfl) (c_Model_begins  (by assumption)) ?_
    obtain ⟨q2, eq2⟩ : ∃ q, q = f_Model_begins q1.1 q1.2 (20 : Int32) := ⟨_, rfl⟩
    rw [← eq2]
    rw [← eq2] at hf
    try dsimp only at hf
    have ht_q2 : q2.2 ≤ 16 := by rw [eq2]; exact begins_le (by assumption)
    have hv_b : isV (ov h b (modL b lane many items spare stat tape taped fk fp mat mst tok mval W past nac imgs kept gvn costs lst sets bst mlo mal mpr lak q2.1 q2.2)) b (modL b lane many items spare stat tape taped fk fp mat mst tok mval W past nac imgs kept gvn costs lst sets bst mlo mal mpr lak q2.1 q2.2) := ov_isV
    refine r_iload_n X 1 dX8_plainMark_39 rfl ?_
    refine r_aload_n X 0 dX8_plainMark_40 rfl ?_
    refine gf_X8_25 X dX8_plainMark_41 (hv_b 0 _ rfl) rfl ?_
    refine r_bipush X (9 : Int32) dX8_plainMark_44 (by decide) ?_
    refine r_bipush X (8 : Int32) dX8_plainMark_46 (by decide) ?_
    refine r_iload_n X 1 dX8_plainMark_48 rfl ?_
    refine r_imuln X (a := 8) (b := u) dX8_plainMark_49 ?_
    refine r_iaddn X (a := 9) (b := 8 * u) dX8_plainMark_50 ?_
    refine r_bipush X (7 : Int32) dX8_plainMark_51 (by decide) ?_
    refine r_iaddn X (a := 9 + (8 * u)) (b := 7) dX8_plainMark_53 ?_
    refine r_ialdn X (k0 := (9 + (8 * u)) + 7) dX8_plainMark_54 (hv_b (6 + 0) _ (modL_W (by omega))) (by omega) (by decide) ?_
    refine cl_X8_256 X (by decide) dX8_plainMark_55 (Nat.le_of_ble_eq_true rfl) (c_Model_ones  ) ?_
    refine r_iadd X dX8_plainMark_58 ?_
    refine r_istore_n [(0, .ref b), (1, .int (nI u)), (2, .int (f_Model_kindIn W u)), (3, .int ((nI u) + (f_Model_ones ((W 0) ((9 + (8 * u)) + 7)))))] X dX8_plainMark_59 rfl (by decide) rfl ?_
    refine r_iload_n X 2 dX8_plainMark_60 rfl ?_
    refine r_iconst X (2 : Int32) dX8_plainMark_61 (by decide) ?_
    refine m_join (P := SW Z 85 [] [.int (if (f_Model_kindIn W u) = (2 : Int32) then (2 : Int32) * ((nI u) + (f_Model_ones ((W 0) ((9 + (8 * u)) + 7)))) else if (f_Model_kindIn W u) = (3 : Int32) then ((nI u) + (f_Model_ones ((W 0) ((9 + (8 * u)) + 7)))) - (1000 : Int32) else (nI u) + (f_Model_ones ((W 0) ((9 + (8 * u)) + 7))))] (ov h b (modL b lane many items spare stat tape taped fk fp mat mst tok mval W past nac imgs kept gvn costs lst sets bst mlo mal mpr lak q2.1 q2.2))) (fun K => ?_) ?_
    · refine r_icmp_ne X 71 dX8_plainMark_62 rfl (fun c2 => ?_) (fun c2 => ?_)
      · skip
        refine r_iload_n X 2 dX8_plainMark_71 rfl ?_
        refine r_iconst X (3 : Int32) dX8_plainMark_72 (by decide) ?_
        refine m_join (P := SW Z 85 [] [.int (if (f_Model_kindIn W u) = (3 : Int32) then ((nI u) + (f_Model_ones ((W 0) ((9 + (8 * u)) + 7)))) - (1000 : Int32) else (nI u) + (f_Model_ones ((W 0) ((9 + (8 * u)) + 7))))] (ov h b (modL b lane many items spare stat tape taped fk fp mat mst tok mval W past nac imgs kept gvn costs lst sets bst mlo mal mpr lak q2.1 q2.2))) (fun K => ?_) ?_
        · refine r_icmp_ne X 84 dX8_plainMark_73 rfl (fun c3 => ?_) (fun c3 => ?_)
          · skip
            refine r_iload_n X 3 dX8_plainMark_84 rfl ?_
            refine SW.pick [] [] rfl ?_
            try simp only [if_neg c3] at K ⊢
            exact K
          · skip
            refine r_iload_n X 3 dX8_plainMark_76 rfl ?_
            refine r_sipush X (1000 : Int32) dX8_plainMark_77 (by decide) ?_
            refine r_isub X dX8_plainMark_80 ?_
            refine r_goto X 85 dX8_plainMark_81 rfl ?_
            refine SW.pick [] [] rfl ?_
            try simp only [if_pos c3] at K ⊢
            exact K
        have hv_b : isV (ov h b (modL b lane many items spare stat tape taped fk fp mat mst tok mval W past nac imgs kept gvn costs lst sets bst mlo mal mpr lak q2.1 q2.2)) b (modL b lane many items spare stat tape taped fk fp mat mst tok mval W past nac imgs kept gvn costs lst sets bst mlo mal mpr lak q2.1 q2.2) := ov_isV
        try simp only [if_neg c2] at K ⊢
        exact K
      · skip
        refine r_iconst X (2 : Int32) dX8_plainMark_65 (by decide) ?_
        refine r_iload_n X 3 dX8_plainMark_66 rfl ?_
        refine r_imul X dX8_plainMark_67 ?_
        refine r_goto X 85 dX8_plainMark_68 rfl ?_
        refine SW.pick [] [] rfl ?_
        try simp only [if_pos c2] at K ⊢
        exact K
    have hv_b : isV (ov h b (modL b lane many items spare stat tape taped fk fp mat mst tok mval W past nac imgs kept gvn costs lst sets bst mlo mal mpr lak q2.1 q2.2)) b (modL b lane many items spare stat tape taped fk fp mat mst tok mval W past nac imgs kept gvn costs lst sets bst mlo mal mpr lak q2.1 q2.2) := ov_isV
    try subst hf
    exact r_ireturn X Y dX8_plainMark_85 rfl rfl
  · rw [if_neg c1] at hf
    refine r_aload_n X 0 dX8_plainMark_11 rfl ?_
    refine r_iload_n X 2 dX8_plainMark_12 rfl ?_
    refine r_iconst X (2 : Int32) dX8_plainMark_13 (by decide) ?_
    refine m_join (P := SW Z 24 [(0, .ref b), (1, .int (nI u)), (2, .int (f_Model_kindIn W u))] [.int (if (f_Model_kindIn W u) = (2 : Int32) then (24 : Int32) else (22 : Int32)), .ref b] (ov h b (modL b lane many items spare stat tape taped fk fp mat mst tok mval W past nac imgs kept gvn costs lst sets bst mlo mal mpr lak trc ntr))) (fun K => ?_) ?_
    · refine r_icmp_ne X 22 dX8_plainMark_14 rfl (fun c4 => ?_) (fun c4 => ?_)
      · skip
        refine r_bipush X (22 : Int32) dX8_plainMark_22 (by decide) ?_
        try simp only [if_neg c4] at K ⊢
        exact K
      · skip
        refine r_bipush X (24 : Int32) dX8_plainMark_17 (by decide) ?_
        refine r_goto X 24 dX8_plainMark_19 rfl ?_
        try simp only [if_pos c4] at K ⊢
        exact K
    have hv_b : isV (ov h b (modL b lane many items spare stat tape taped fk fp mat mst tok mval W past nac imgs kept gvn costs lst sets bst mlo mal mpr lak trc ntr)) b (modL b lane many items spare stat tape taped fk fp mat mst tok mval W past nac imgs kept gvn costs lst sets bst mlo mal mpr lak trc ntr) := ov_isV
    refine cl_X8_301 X (by decide) dX8_plainMark_24 (Nat.le_of_ble_eq_true rfl) (hv_b 0 _ rfl) (c_Model_begins  (by assumption)) ?_
    obtain ⟨q3, eq3⟩ : ∃ q, q = f_Model_begins trc ntr (if (f_Model_kindIn W u) = (2 : Int32) then (24 : Int32) else (22 : Int32)) := ⟨_, rfl⟩
    rw [← eq3]
    rw [← eq3] at hf
    try dsimp only at hf
    have ht_q3 : q3.2 ≤ 16 := by rw [eq3]; exact begins_le (by assumption)
    have hv_b : isV (ov h b (modL b lane many items spare stat tape taped fk fp mat mst tok mval W past nac imgs kept gvn costs lst sets bst mlo mal mpr lak q3.1 q3.2)) b (modL b lane many items spare stat tape taped fk fp mat mst tok mval W past nac imgs kept gvn costs lst sets bst mlo mal mpr lak q3.1 q3.2) := ov_isV
    refine r_aload_n X 0 dX8_plainMark_27 rfl ?_
    refine r_bipush X (21 : Int32) dX8_plainMark_28 (by decide) ?_
    refine cl_X8_301 X (by decide) dX8_plainMark_30 (Nat.le_of_ble_eq_true rfl) (hv_b 0 _ rfl) (c_Model_begins  (by assumption)) ?_
    obtain ⟨q4, eq4⟩ : ∃ q, q = f_Model_begins q3.1 q3.2 (21 : Int32) := ⟨_, rfl⟩
    rw [← eq4]
    rw [← eq4] at hf
    try dsimp only at hf
    have ht_q4 : q4.2 ≤ 16 := by rw [eq4]; exact begins_le (by assumption)
    have hv_b : isV (ov h b (modL b lane many items spare stat tape taped fk fp mat mst tok mval W past nac imgs kept gvn costs lst sets bst mlo mal mpr lak q4.1 q4.2)) b (modL b lane many items spare stat tape taped fk fp mat mst tok mval W past nac imgs kept gvn costs lst sets bst mlo mal mpr lak q4.1 q4.2) := ov_isV
    refine r_aload_n X 0 dX8_plainMark_33 rfl ?_
    refine r_bipush X (20 : Int32) dX8_plainMark_34 (by decide) ?_
    refine cl_X8_301 X (by decide) dX8_plainMark_36 (Nat.le_of_ble_eq_true rfl) (hv_b 0 _ rfl) (c_Model_begins  (by assumption)) ?_
    obtain ⟨q5, eq5⟩ : ∃ q, q = f_Model_begins q4.1 q4.2 (20 : Int32) := ⟨_, rfl⟩
    rw [← eq5]
    rw [← eq5] at hf
    try dsimp only at hf
    have ht_q5 : q5.2 ≤ 16 := by rw [eq5]; exact begins_le (by assumption)
    have hv_b : isV (ov h b (modL b lane many items spare stat tape taped fk fp mat mst tok mval W past nac imgs kept gvn costs lst sets bst mlo mal mpr lak q5.1 q5.2)) b (modL b lane many items spare stat tape taped fk fp mat mst tok mval W past nac imgs kept gvn costs lst sets bst mlo mal mpr lak q5.1 q5.2) := ov_isV
    refine r_iload_n X 1 dX8_plainMark_39 rfl ?_
    refine r_aload_n X 0 dX8_plainMark_40 rfl ?_
    refine gf_X8_25 X dX8_plainMark_41 (hv_b 0 _ rfl) rfl ?_
    refine r_bipush X (9 : Int32) dX8_plainMark_44 (by decide) ?_
    refine r_bipush X (8 : Int32) dX8_plainMark_46 (by decide) ?_
    refine r_iload_n X 1 dX8_plainMark_48 rfl ?_
    refine r_imuln X (a := 8) (b := u) dX8_plainMark_49 ?_
    refine r_iaddn X (a := 9) (b := 8 * u) dX8_plainMark_50 ?_
    refine r_bipush X (7 : Int32) dX8_plainMark_51 (by decide) ?_
    refine r_iaddn X (a := 9 + (8 * u)) (b := 7) dX8_plainMark_53 ?_
    refine r_ialdn X (k0 := (9 + (8 * u)) + 7) dX8_plainMark_54 (hv_b (6 + 0) _ (modL_W (by omega))) (by omega) (by decide) ?_
    refine cl_X8_256 X (by decide) dX8_plainMark_55 (Nat.le_of_ble_eq_true rfl) (c_Model_ones  ) ?_
    refine r_iadd X dX8_plainMark_58 ?_
    refine r_istore_n [(0, .ref b), (1, .int (nI u)), (2, .int (f_Model_kindIn W u)), (3, .int ((nI u) + (f_Model_ones ((W 0) ((9 + (8 * u)) + 7)))))] X dX8_plainMark_59 rfl (by decide) rfl ?_
    refine r_iload_n X 2 dX8_plainMark_60 rfl ?_
    refine r_iconst X (2 : Int32) dX8_plainMark_61 (by decide) ?_
    refine m_join (P := SW Z 85 [] [.int (if (f_Model_kindIn W u) = (2 : Int32) then (2 : Int32) * ((nI u) + (f_Model_ones ((W 0) ((9 + (8 * u)) + 7)))) else if (f_Model_kindIn W u) = (3 : Int32) then ((nI u) + (f_Model_ones ((W 0) ((9 + (8 * u)) + 7)))) - (1000 : Int32) else (nI u) + (f_Model_ones ((W 0) ((9 + (8 * u)) + 7))))] (ov h b (modL b lane many items spare stat tape taped fk fp mat mst tok mval W past nac imgs kept gvn costs lst sets bst mlo mal mpr lak q5.1 q5.2))) (fun K => ?_) ?_
    · refine r_icmp_ne X 71 dX8_plainMark_62 rfl (fun c5 => ?_) (fun c5 => ?_)
      · skip
        refine r_iload_n X 2 dX8_plainMark_71 rfl ?_
        refine r_iconst X (3 : Int32) dX8_plainMark_72 (by decide) ?_
        refine m_join (P := SW Z 85 [] [.int (if (f_Model_kindIn W u) = (3 : Int32) then ((nI u) + (f_Model_ones ((W 0) ((9 + (8 * u)) + 7)))) - (1000 : Int32) else (nI u) + (f_Model_ones ((W 0) ((9 + (8 * u)) + 7))))] (ov h b (modL b lane many items spare stat tape taped fk fp mat mst tok mval W past nac imgs kept gvn costs lst sets bst mlo mal mpr lak q5.1 q5.2))) (fun K => ?_) ?_
        · refine r_icmp_ne X 84 dX8_plainMark_73 rfl (fun c6 => ?_) (fun c6 => ?_)
          · skip
            refine r_iload_n X 3 dX8_plainMark_84 rfl ?_
            refine SW.pick [] [] rfl ?_
            try simp only [if_neg c6] at K ⊢
            exact K
          · skip
            refine r_iload_n X 3 dX8_plainMark_76 rfl ?_
            refine r_sipush X (1000 : Int32) dX8_plainMark_77 (by decide) ?_
            refine r_isub X dX8_plainMark_80 ?_
            refine r_goto X 85 dX8_plainMark_81 rfl ?_
            refine SW.pick [] [] rfl ?_
            try simp only [if_pos c6] at K ⊢
            exact K
        have hv_b : isV (ov h b (modL b lane many items spare stat tape taped fk fp mat mst tok mval W past nac imgs kept gvn costs lst sets bst mlo mal mpr lak q5.1 q5.2)) b (modL b lane many items spare stat tape taped fk fp mat mst tok mval W past nac imgs kept gvn costs lst sets bst mlo mal mpr lak q5.1 q5.2) := ov_isV
        try simp only [if_neg c5] at K ⊢
        exact K
      · skip
        refine r_iconst X (2 : Int32) dX8_plainMark_65 (by decide) ?_
        refine r_iload_n X 3 dX8_plainMark_66 rfl ?_
        refine r_imul X dX8_plainMark_67 ?_
        refine r_goto X 85 dX8_plainMark_68 rfl ?_
        refine SW.pick [] [] rfl ?_
        try simp only [if_pos c5] at K ⊢
        exact K
    have hv_b : isV (ov h b (modL b lane many items spare stat tape taped fk fp mat mst tok mval W past nac imgs kept gvn costs lst sets bst mlo mal mpr lak q5.1 q5.2)) b (modL b lane many items spare stat tape taped fk fp mat mst tok mval W past nac imgs kept gvn costs lst sets bst mlo mal mpr lak q5.1 q5.2) := ov_isV
    try subst hf
    exact r_ireturn X Y dX8_plainMark_85 rfl rfl

theorem plainMark_le {W : Nat → Nat → Int32} {trc : Nat → Int32} {ntr : Nat} {u : Nat} (h : ntr ≤ 16) : (f_Model_plainMark W trc ntr u).2.2 ≤ 16 := by
  unfold f_Model_plainMark
  dsimp only
  (repeat' split) <;> (try dsimp only) <;> (repeat (first | assumption | apply begins_le))

def f_Model_waterSize (W : Nat → Nat → Int32) (trc : Nat → Int32) (ntr : Nat) (u : Nat) : Int32 × (Nat → Int32) × Nat := (if (if (f_Model_kindIn W u) = (5 : Int32) then (1 : Int32) else (0 : Int32)) = (0 : Int32) then ((fun q1 => ((fun q2 => (if (if (f_Model_kindIn W u) = (5 : Int32) then (1 : Int32) else (0 : Int32)) = (0 : Int32) then ((W 0) ((9 + (8 * u)) + 2)) - (100 : Int32) else (2 : Int32) * (((W 0) ((9 + (8 * u)) + 2)) - (100 : Int32)), q2.1, q2.2)) (f_Model_begins q1.1 q1.2 (10 : Int32)))) (f_Model_begins trc ntr (13 : Int32))) else ((fun q3 => ((fun q4 => ((fun q5 => (if (if (f_Model_kindIn W u) = (5 : Int32) then (1 : Int32) else (0 : Int32)) = (0 : Int32) then ((W 0) ((9 + (8 * u)) + 2)) - (100 : Int32) else (2 : Int32) * (((W 0) ((9 + (8 * u)) + 2)) - (100 : Int32)), q5.1, q5.2)) (f_Model_begins q4.1 q4.2 (10 : Int32)))) (f_Model_begins q3.1 q3.2 (13 : Int32)))) (f_Model_begins trc ntr (14 : Int32))))
set_option maxRecDepth 20000 in
set_option maxHeartbeats 4000000 in
theorem c_Model_waterSize {G : mG} {h : mHp} {b : Nat} {lane : Nat → Int32} {many : Nat → Nat} {items : Nat → Int32} {spare : Nat → Int32} {stat : Int32} {tape : Nat → Int32} {taped : Nat} {fk : Int32} {fp : Int32} {mat : Nat} {mst : Nat} {tok : Int32} {mval : Int32} {W : Nat → Nat → Int32} {past : Nat → Int32} {nac : Nat} {imgs : Nat → Int32} {kept : Nat → Int32} {gvn : Nat → Int32} {costs : Nat → Int32} {lst : Nat → Int32} {sets : Nat → Int32} {bst : Int32} {mlo : Int64} {mal : Int32} {mpr : Nat → Int64} {lak : Nat → Int64} {trc : Nat → Int32} {ntr : Nat} {u : Nat}   (hu : u < 4) (ht : ntr ≤ 16) : Ret G 1 mX8_waterSize [.ref b, .int (nI u)] (ov h b (modL b lane many items spare stat tape taped fk fp mat mst tok mval W past nac imgs kept gvn costs lst sets bst mlo mal mpr lak trc ntr)) (some (.int (f_Model_waterSize W trc ntr u).1)) (ov h b (modL b lane many items spare stat tape taped fk fp mat mst tok mval W past nac imgs kept gvn costs lst sets bst mlo mal mpr lak (f_Model_waterSize W trc ntr u).2.1 (f_Model_waterSize W trc ntr u).2.2)) := by
  generalize hf : f_Model_waterSize W trc ntr u = R
  unfold f_Model_waterSize at hf
  refine Ret.of [(0, .ref b), (1, .int (nI u))] (by decide) (Nat.le_of_ble_eq_true rfl) rfl ?_
  rintro Z rfl X Y
  have hv_b : isV (ov h b (modL b lane many items spare stat tape taped fk fp mat mst tok mval W past nac imgs kept gvn costs lst sets bst mlo mal mpr lak trc ntr)) b (modL b lane many items spare stat tape taped fk fp mat mst tok mval W past nac imgs kept gvn costs lst sets bst mlo mal mpr lak trc ntr) := ov_isV
  refine r_aload_n X 0 dX8_waterSize_0 rfl ?_
  refine r_iload_n X 1 dX8_waterSize_1 rfl ?_
  refine cl_X8_295 X (by decide) dX8_waterSize_2 (Nat.le_of_ble_eq_true rfl) (hv_b 0 _ rfl) (c_Model_kindIn hv_b (by first | assumption | omega)) ?_
  refine r_iconst X (5 : Int32) dX8_waterSize_5 (by decide) ?_
  refine m_join (P := SW Z 14 [(0, .ref b), (1, .int (nI u))] [.int (if (f_Model_kindIn W u) = (5 : Int32) then (1 : Int32) else (0 : Int32))] (ov h b (modL b lane many items spare stat tape taped fk fp mat mst tok mval W past nac imgs kept gvn costs lst sets bst mlo mal mpr lak trc ntr))) (fun K => ?_) ?_
  · refine r_icmp_ne X 13 dX8_waterSize_6 rfl (fun c1 => ?_) (fun c1 => ?_)
    · skip
      refine r_iconst X (0 : Int32) dX8_waterSize_13 (by decide) ?_
      try simp only [if_neg c1] at K ⊢
      exact K
    · skip
      refine r_iconst X (1 : Int32) dX8_waterSize_9 (by decide) ?_
      refine r_goto X 14 dX8_waterSize_10 rfl ?_
      try simp only [if_pos c1] at K ⊢
      exact K
  have hv_b : isV (ov h b (modL b lane many items spare stat tape taped fk fp mat mst tok mval W past nac imgs kept gvn costs lst sets bst mlo mal mpr lak trc ntr)) b (modL b lane many items spare stat tape taped fk fp mat mst tok mval W past nac imgs kept gvn costs lst sets bst mlo mal mpr lak trc ntr) := ov_isV
  refine r_istore_n [(0, .ref b), (1, .int (nI u)), (2, .int (if (f_Model_kindIn W u) = (5 : Int32) then (1 : Int32) else (0 : Int32)))] X dX8_waterSize_14 rfl (by decide) rfl ?_
  refine r_iload_n X 2 dX8_waterSize_15 rfl ?_
  refine r_if_eq X 25 dX8_waterSize_16 rfl (fun c2 => ?_) (fun c2 => ?_)
  · rw [if_pos c2] at hf
    refine r_aload_n X 0 dX8_waterSize_25 rfl ?_
    refine r_bipush X (13 : Int32) dX8_waterSize_26 (by decide) ?_
    refine cl_X8_301 X (by decide) dX8_waterSize_28 (Nat.le_of_ble_eq_true rfl) (hv_b 0 _ rfl) (c_Model_begins  (by assumption)) ?_
    obtain ⟨q1, eq1⟩ : ∃ q, q = f_Model_begins trc ntr (13 : Int32) := ⟨_, rfl⟩
    rw [← eq1]
    rw [← eq1] at hf
    try dsimp only at hf
    have ht_q1 : q1.2 ≤ 16 := by rw [eq1]; exact begins_le (by assumption)
    have hv_b : isV (ov h b (modL b lane many items spare stat tape taped fk fp mat mst tok mval W past nac imgs kept gvn costs lst sets bst mlo mal mpr lak q1.1 q1.2)) b (modL b lane many items spare stat tape taped fk fp mat mst tok mval W past nac imgs kept gvn costs lst sets bst mlo mal mpr lak q1.1 q1.2) := ov_isV
    refine r_aload_n X 0 dX8_waterSize_31 rfl ?_
    refine r_bipush X (10 : Int32) dX8_waterSize_32 (by decide) ?_
    refine cl_X8_301 X (by decide) dX8_waterSize_34 (Nat.le_of_ble_eq_true rfl) (hv_b 0 _ rfl) (c_Model_begins  (by assumption)) ?_
    obtain ⟨q2, eq2⟩ : ∃ q, q = f_Model_begins q1.1 q1.2 (10 : Int32) := ⟨_, rfl⟩
    rw [← eq2]
    rw [← eq2] at hf
    try dsimp only at hf
    have ht_q2 : q2.2 ≤ 16 := by rw [eq2]; exact begins_le (by assumption)
    have hv_b : isV (ov h b (modL b lane many items spare stat tape taped fk fp mat mst tok mval W past nac imgs kept gvn costs lst sets bst mlo mal mpr lak q2.1 q2.2)) b (modL b lane many items spare stat tape taped fk fp mat mst tok mval W past nac imgs kept gvn costs lst sets bst mlo mal mpr lak q2.1 q2.2) := ov_isV
    refine r_aload_n X 0 dX8_waterSize_37 rfl ?_
    refine gf_X8_25 X dX8_waterSize_38 (hv_b 0 _ rfl) rfl ?_
    refine r_bipush X (9 : Int32) dX8_waterSize_41 (by decide) ?_
    refine r_bipush X (8 : Int32) dX8_waterSize_43 (by decide) ?_
    refine r_iload_n X 1 dX8_waterSize_45 rfl ?_
    refine r_imuln X (a := 8) (b := u) dX8_waterSize_46 ?_
    refine r_iaddn X (a := 9) (b := 8 * u) dX8_waterSize_47 ?_
    refine r_iconst X (2 : Int32) dX8_waterSize_48 (by decide) ?_
    refine r_iaddn X (a := 9 + (8 * u)) (b := 2) dX8_waterSize_49 ?_
    refine r_ialdn X (k0 := (9 + (8 * u)) + 2) dX8_waterSize_50 (hv_b (6 + 0) _ (modL_W (by omega))) (by omega) (by decide) ?_
    refine r_bipush X (100 : Int32) dX8_waterSize_51 (by decide) ?_
    refine r_isub X dX8_waterSize_53 ?_
    refine r_istore_n [(0, .ref b), (1, .int (nI u)), (2, .int (if (f_Model_kindIn W u) = (5 : Int32) then (1 : Int32) else (0 : Int32))), (3, .int (((W 0) ((9 + (8 * u)) + 2)) - (100 : Int32)))] X dX8_waterSize_54 rfl (by decide) rfl ?_
    refine r_iload_n X 2 dX8_waterSize_55 rfl ?_
    refine m_join (P := SW Z 66 [] [.int (if (if (f_Model_kindIn W u) = (5 : Int32) then (1 : Int32) else (0 : Int32)) = (0 : Int32) then ((W 0) ((9 + (8 * u)) + 2)) - (100 : Int32) else (2 : Int32) * (((W 0) ((9 + (8 * u)) + 2)) - (100 : Int32)))] (ov h b (modL b lane many items spare stat tape taped fk fp mat mst tok mval W past nac imgs kept gvn costs lst sets bst mlo mal mpr lak q2.1 q2.2))) (fun K => ?_) ?_
    · refine r_if_eq X 65 dX8_waterSize_56 rfl (fun c3 => ?_) (fun c3 => ?_)
      · skip
        refine r_iload_n X 3 dX8_waterSize_65 rfl ?_
        refine SW.pick [] [] rfl ?_
        try simp only [if_pos c3] at K ⊢
        exact K
      · skip
        refine r_iconst X (2 : Int32) dX8_waterSize_59 (by decide) ?_
        refine r_iload_n X 3 dX8_waterSize_60 rfl ?_
        refine r_imul X dX8_waterSize_61 ?_
        refine r_goto X 66 dX8_waterSize_62 rfl ?_
        refine SW.pick [] [] rfl ?_
        try simp only [if_neg c3] at K ⊢
        exact K
    have hv_b : isV (ov h b (modL b lane many items spare stat tape taped fk fp mat mst tok mval W past nac imgs kept gvn costs lst sets bst mlo mal mpr lak q2.1 q2.2)) b (modL b lane many items spare stat tape taped fk fp mat mst tok mval W past nac imgs kept gvn costs lst sets bst mlo mal mpr lak q2.1 q2.2) := ov_isV
    try subst hf
    exact r_ireturn X Y dX8_waterSize_66 rfl rfl
  · rw [if_neg c2] at hf
    refine r_aload_n X 0 dX8_waterSize_19 rfl ?_
    refine r_bipush X (14 : Int32) dX8_waterSize_20 (by decide) ?_
    refine cl_X8_301 X (by decide) dX8_waterSize_22 (Nat.le_of_ble_eq_true rfl) (hv_b 0 _ rfl) (c_Model_begins  (by assumption)) ?_
    obtain ⟨q3, eq3⟩ : ∃ q, q = f_Model_begins trc ntr (14 : Int32) := ⟨_, rfl⟩
    rw [← eq3]
    rw [← eq3] at hf
    try dsimp only at hf
    have ht_q3 : q3.2 ≤ 16 := by rw [eq3]; exact begins_le (by assumption)
    have hv_b : isV (ov h b (modL b lane many items spare stat tape taped fk fp mat mst tok mval W past nac imgs kept gvn costs lst sets bst mlo mal mpr lak q3.1 q3.2)) b (modL b lane many items spare stat tape taped fk fp mat mst tok mval W past nac imgs kept gvn costs lst sets bst mlo mal mpr lak q3.1 q3.2) := ov_isV
    refine r_aload_n X 0 dX8_waterSize_25 rfl ?_
    refine r_bipush X (13 : Int32) dX8_waterSize_26 (by decide) ?_
    refine cl_X8_301 X (by decide) dX8_waterSize_28 (Nat.le_of_ble_eq_true rfl) (hv_b 0 _ rfl) (c_Model_begins  (by assumption)) ?_
    obtain ⟨q4, eq4⟩ : ∃ q, q = f_Model_begins q3.1 q3.2 (13 : Int32) := ⟨_, rfl⟩
    rw [← eq4]
    rw [← eq4] at hf
    try dsimp only at hf
    have ht_q4 : q4.2 ≤ 16 := by rw [eq4]; exact begins_le (by assumption)
    have hv_b : isV (ov h b (modL b lane many items spare stat tape taped fk fp mat mst tok mval W past nac imgs kept gvn costs lst sets bst mlo mal mpr lak q4.1 q4.2)) b (modL b lane many items spare stat tape taped fk fp mat mst tok mval W past nac imgs kept gvn costs lst sets bst mlo mal mpr lak q4.1 q4.2) := ov_isV
    refine r_aload_n X 0 dX8_waterSize_31 rfl ?_
    refine r_bipush X (10 : Int32) dX8_waterSize_32 (by decide) ?_
    refine cl_X8_301 X (by decide) dX8_waterSize_34 (Nat.le_of_ble_eq_true rfl) (hv_b 0 _ rfl) (c_Model_begins  (by assumption)) ?_
    obtain ⟨q5, eq5⟩ : ∃ q, q = f_Model_begins q4.1 q4.2 (10 : Int32) := ⟨_, rfl⟩
    rw [← eq5]
    rw [← eq5] at hf
    try dsimp only at hf
    have ht_q5 : q5.2 ≤ 16 := by rw [eq5]; exact begins_le (by assumption)
    have hv_b : isV (ov h b (modL b lane many items spare stat tape taped fk fp mat mst tok mval W past nac imgs kept gvn costs lst sets bst mlo mal mpr lak q5.1 q5.2)) b (modL b lane many items spare stat tape taped fk fp mat mst tok mval W past nac imgs kept gvn costs lst sets bst mlo mal mpr lak q5.1 q5.2) := ov_isV
    refine r_aload_n X 0 dX8_waterSize_37 rfl ?_
    refine gf_X8_25 X dX8_waterSize_38 (hv_b 0 _ rfl) rfl ?_
    refine r_bipush X (9 : Int32) dX8_waterSize_41 (by decide) ?_
    refine r_bipush X (8 : Int32) dX8_waterSize_43 (by decide) ?_
    refine r_iload_n X 1 dX8_waterSize_45 rfl ?_
    refine r_imuln X (a := 8) (b := u) dX8_waterSize_46 ?_
    refine r_iaddn X (a := 9) (b := 8 * u) dX8_waterSize_47 ?_
    refine r_iconst X (2 : Int32) dX8_waterSize_48 (by decide) ?_
    refine r_iaddn X (a := 9 + (8 * u)) (b := 2) dX8_waterSize_49 ?_
    refine r_ialdn X (k0 := (9 + (8 * u)) + 2) dX8_waterSize_50 (hv_b (6 + 0) _ (modL_W (by omega))) (by omega) (by decide) ?_
    refine r_bipush X (100 : Int32) dX8_waterSize_51 (by decide) ?_
    refine r_isub X dX8_waterSize_53 ?_
    refine r_istore_n [(0, .ref b), (1, .int (nI u)), (2, .int (if (f_Model_kindIn W u) = (5 : Int32) then (1 : Int32) else (0 : Int32))), (3, .int (((W 0) ((9 + (8 * u)) + 2)) - (100 : Int32)))] X dX8_waterSize_54 rfl (by decide) rfl ?_
    refine r_iload_n X 2 dX8_waterSize_55 rfl ?_
    refine m_join (P := SW Z 66 [] [.int (if (if (f_Model_kindIn W u) = (5 : Int32) then (1 : Int32) else (0 : Int32)) = (0 : Int32) then ((W 0) ((9 + (8 * u)) + 2)) - (100 : Int32) else (2 : Int32) * (((W 0) ((9 + (8 * u)) + 2)) - (100 : Int32)))] (ov h b (modL b lane many items spare stat tape taped fk fp mat mst tok mval W past nac imgs kept gvn costs lst sets bst mlo mal mpr lak q5.1 q5.2))) (fun K => ?_) ?_
    · refine r_if_eq X 65 dX8_waterSize_56 rfl (fun c4 => ?_) (fun c4 => ?_)
      · skip
        refine r_iload_n X 3 dX8_waterSize_65 rfl ?_
        refine SW.pick [] [] rfl ?_
        try simp only [if_pos c4] at K ⊢
        exact K
      · skip
        refine r_iconst X (2 : Int32) dX8_waterSize_59 (by decide) ?_
        refine r_iload_n X 3 dX8_waterSize_60 rfl ?_
        refine r_imul X dX8_waterSize_61 ?_
        refine r_goto X 66 dX8_waterSize_62 rfl ?_
        refine SW.pick [] [] rfl ?_
        try simp only [if_neg c4] at K ⊢
        exact K
    have hv_b : isV (ov h b (modL b lane many items spare stat tape taped fk fp mat mst tok mval W past nac imgs kept gvn costs lst sets bst mlo mal mpr lak q5.1 q5.2)) b (modL b lane many items spare stat tape taped fk fp mat mst tok mval W past nac imgs kept gvn costs lst sets bst mlo mal mpr lak q5.1 q5.2) := ov_isV
    try subst hf
    exact r_ireturn X Y dX8_waterSize_66 rfl rfl

theorem waterSize_le {W : Nat → Nat → Int32} {trc : Nat → Int32} {ntr : Nat} {u : Nat} (h : ntr ≤ 16) : (f_Model_waterSize W trc ntr u).2.2 ≤ 16 := by
  unfold f_Model_waterSize
  dsimp only
  (repeat' split) <;> (try dsimp only) <;> (repeat (first | assumption | apply begins_le))

def f_Model_plainSize (W : Nat → Nat → Int32) (trc : Nat → Int32) (ntr : Nat) (u : Nat) : Int32 × (Nat → Int32) × Nat := (if (if (f_Model_kindIn W u) = (2 : Int32) then (1 : Int32) else (0 : Int32)) = (0 : Int32) then ((fun q1 => ((fun q2 => ((fun q3 => (if (if (f_Model_kindIn W u) = (2 : Int32) then (1 : Int32) else (0 : Int32)) = (0 : Int32) then ((W 0) ((9 + (8 * u)) + 2)) + q3.1 else -(((W 0) ((9 + (8 * u)) + 2)) + q3.1), q3.2.1, q3.2.2)) (f_Model_plainMark W q2.1 q2.2 u))) (f_Model_begins q1.1 q1.2 (10 : Int32)))) (f_Model_begins trc ntr (11 : Int32))) else ((fun q4 => ((fun q5 => ((fun q6 => ((fun q7 => (if (if (f_Model_kindIn W u) = (2 : Int32) then (1 : Int32) else (0 : Int32)) = (0 : Int32) then ((W 0) ((9 + (8 * u)) + 2)) + q7.1 else -(((W 0) ((9 + (8 * u)) + 2)) + q7.1), q7.2.1, q7.2.2)) (f_Model_plainMark W q6.1 q6.2 u))) (f_Model_begins q5.1 q5.2 (10 : Int32)))) (f_Model_begins q4.1 q4.2 (11 : Int32)))) (f_Model_begins trc ntr (12 : Int32))))
set_option maxRecDepth 20000 in
set_option maxHeartbeats 4000000 in
theorem c_Model_plainSize {G : mG} {h : mHp} {b : Nat} {lane : Nat → Int32} {many : Nat → Nat} {items : Nat → Int32} {spare : Nat → Int32} {stat : Int32} {tape : Nat → Int32} {taped : Nat} {fk : Int32} {fp : Int32} {mat : Nat} {mst : Nat} {tok : Int32} {mval : Int32} {W : Nat → Nat → Int32} {past : Nat → Int32} {nac : Nat} {imgs : Nat → Int32} {kept : Nat → Int32} {gvn : Nat → Int32} {costs : Nat → Int32} {lst : Nat → Int32} {sets : Nat → Int32} {bst : Int32} {mlo : Int64} {mal : Int32} {mpr : Nat → Int64} {lak : Nat → Int64} {trc : Nat → Int32} {ntr : Nat} {u : Nat}   (hu : u < 4) (ht : ntr ≤ 16) : Ret G 2 mX8_plainSize [.ref b, .int (nI u)] (ov h b (modL b lane many items spare stat tape taped fk fp mat mst tok mval W past nac imgs kept gvn costs lst sets bst mlo mal mpr lak trc ntr)) (some (.int (f_Model_plainSize W trc ntr u).1)) (ov h b (modL b lane many items spare stat tape taped fk fp mat mst tok mval W past nac imgs kept gvn costs lst sets bst mlo mal mpr lak (f_Model_plainSize W trc ntr u).2.1 (f_Model_plainSize W trc ntr u).2.2)) := by
  generalize hf : f_Model_plainSize W trc ntr u = R
  unfold f_Model_plainSize at hf
  refine Ret.of [(0, .ref b), (1, .int (nI u))] (by decide) (Nat.le_of_ble_eq_true rfl) rfl ?_
  rintro Z rfl X Y
  have hv_b : isV (ov h b (modL b lane many items spare stat tape taped fk fp mat mst tok mval W past nac imgs kept gvn costs lst sets bst mlo mal mpr lak trc ntr)) b (modL b lane many items spare stat tape taped fk fp mat mst tok mval W past nac imgs kept gvn costs lst sets bst mlo mal mpr lak trc ntr) := ov_isV
  refine r_aload_n X 0 dX8_plainSize_0 rfl ?_
  refine r_iload_n X 1 dX8_plainSize_1 rfl ?_
  refine cl_X8_295 X (by decide) dX8_plainSize_2 (Nat.le_of_ble_eq_true rfl) (hv_b 0 _ rfl) (c_Model_kindIn hv_b (by first | assumption | omega)) ?_
  refine r_iconst X (2 : Int32) dX8_plainSize_5 (by decide) ?_
  refine m_join (P := SW Z 14 [(0, .ref b), (1, .int (nI u))] [.int (if (f_Model_kindIn W u) = (2 : Int32) then (1 : Int32) else (0 : Int32))] (ov h b (modL b lane many items spare stat tape taped fk fp mat mst tok mval W past nac imgs kept gvn costs lst sets bst mlo mal mpr lak trc ntr))) (fun K => ?_) ?_
  · refine r_icmp_ne X 13 dX8_plainSize_6 rfl (fun c1 => ?_) (fun c1 => ?_)
    · skip
      refine r_iconst X (0 : Int32) dX8_plainSize_13 (by decide) ?_
      try simp only [if_neg c1] at K ⊢
      exact K
    · skip
      refine r_iconst X (1 : Int32) dX8_plainSize_9 (by decide) ?_
      refine r_goto X 14 dX8_plainSize_10 rfl ?_
      try simp only [if_pos c1] at K ⊢
      exact K
  have hv_b : isV (ov h b (modL b lane many items spare stat tape taped fk fp mat mst tok mval W past nac imgs kept gvn costs lst sets bst mlo mal mpr lak trc ntr)) b (modL b lane many items spare stat tape taped fk fp mat mst tok mval W past nac imgs kept gvn costs lst sets bst mlo mal mpr lak trc ntr) := ov_isV
  refine r_istore_n [(0, .ref b), (1, .int (nI u)), (2, .int (if (f_Model_kindIn W u) = (2 : Int32) then (1 : Int32) else (0 : Int32)))] X dX8_plainSize_14 rfl (by decide) rfl ?_
  refine r_iload_n X 2 dX8_plainSize_15 rfl ?_
  refine r_if_eq X 25 dX8_plainSize_16 rfl (fun c2 => ?_) (fun c2 => ?_)
  · rw [if_pos c2] at hf
    refine r_aload_n X 0 dX8_plainSize_25 rfl ?_
    refine r_bipush X (11 : Int32) dX8_plainSize_26 (by decide) ?_
    refine cl_X8_301 X (by decide) dX8_plainSize_28 (Nat.le_of_ble_eq_true rfl) (hv_b 0 _ rfl) (c_Model_begins  (by assumption)) ?_
    obtain ⟨q1, eq1⟩ : ∃ q, q = f_Model_begins trc ntr (11 : Int32) := ⟨_, rfl⟩
    rw [← eq1]
    rw [← eq1] at hf
    try dsimp only at hf
    have ht_q1 : q1.2 ≤ 16 := by rw [eq1]; exact begins_le (by assumption)
    have hv_b : isV (ov h b (modL b lane many items spare stat tape taped fk fp mat mst tok mval W past nac imgs kept gvn costs lst sets bst mlo mal mpr lak q1.1 q1.2)) b (modL b lane many items spare stat tape taped fk fp mat mst tok mval W past nac imgs kept gvn costs lst sets bst mlo mal mpr lak q1.1 q1.2) := ov_isV
    refine r_aload_n X 0 dX8_plainSize_31 rfl ?_
    refine r_bipush X (10 : Int32) dX8_plainSize_32 (by decide) ?_
    refine cl_X8_301 X (by decide) dX8_plainSize_34 (Nat.le_of_ble_eq_true rfl) (hv_b 0 _ rfl) (c_Model_begins  (by assumption)) ?_
    obtain ⟨q2, eq2⟩ : ∃ q, q = f_Model_begins q1.1 q1.2 (10 : Int32) := ⟨_, rfl⟩
    rw [← eq2]
    rw [← eq2] at hf
    try dsimp only at hf
    have ht_q2 : q2.2 ≤ 16 := by rw [eq2]; exact begins_le (by assumption)
    have hv_b : isV (ov h b (modL b lane many items spare stat tape taped fk fp mat mst tok mval W past nac imgs kept gvn costs lst sets bst mlo mal mpr lak q2.1 q2.2)) b (modL b lane many items spare stat tape taped fk fp mat mst tok mval W past nac imgs kept gvn costs lst sets bst mlo mal mpr lak q2.1 q2.2) := ov_isV
    refine r_aload_n X 0 dX8_plainSize_37 rfl ?_
    refine gf_X8_25 X dX8_plainSize_38 (hv_b 0 _ rfl) rfl ?_
    refine r_bipush X (9 : Int32) dX8_plainSize_41 (by decide) ?_
    refine r_bipush X (8 : Int32) dX8_plainSize_43 (by decide) ?_
    refine r_iload_n X 1 dX8_plainSize_45 rfl ?_
    refine r_imuln X (a := 8) (b := u) dX8_plainSize_46 ?_
    refine r_iaddn X (a := 9) (b := 8 * u) dX8_plainSize_47 ?_
    refine r_iconst X (2 : Int32) dX8_plainSize_48 (by decide) ?_
    refine r_iaddn X (a := 9 + (8 * u)) (b := 2) dX8_plainSize_49 ?_
    refine r_ialdn X (k0 := (9 + (8 * u)) + 2) dX8_plainSize_50 (hv_b (6 + 0) _ (modL_W (by omega))) (by omega) (by decide) ?_
    refine r_aload_n X 0 dX8_plainSize_51 rfl ?_
    refine r_iload_n X 1 dX8_plainSize_52 rfl ?_
    refine cl_X8_305 X (by decide) dX8_plainSize_53 (Nat.le_of_ble_eq_true rfl) (hv_b 0 _ rfl) (c_Model_plainMark  (by first | assumption | omega) (by assumption)) ?_
    obtain ⟨q3, eq3⟩ : ∃ q, q = f_Model_plainMark W q2.1 q2.2 u := ⟨_, rfl⟩
    rw [← eq3]
    rw [← eq3] at hf
    try dsimp only at hf
    have ht_q3 : q3.2.2 ≤ 16 := by rw [eq3]; exact plainMark_le (by assumption)
    have hv_b : isV (ov h b (modL b lane many items spare stat tape taped fk fp mat mst tok mval W past nac imgs kept gvn costs lst sets bst mlo mal mpr lak q3.2.1 q3.2.2)) b (modL b lane many items spare stat tape taped fk fp mat mst tok mval W past nac imgs kept gvn costs lst sets bst mlo mal mpr lak q3.2.1 q3.2.2) := ov_isV
    refine r_iadd X dX8_plainSize_56 ?_
    refine r_istore_n [(0, .ref b), (1, .int (nI u)), (2, .int (if (f_Model_kindIn W u) = (2 : Int32) then (1 : Int32) else (0 : Int32))), (3, .int (((W 0) ((9 + (8 * u)) + 2)) + q3.1))] X dX8_plainSize_57 rfl (by decide) rfl ?_
    refine r_iload_n X 2 dX8_plainSize_58 rfl ?_
    refine m_join (P := SW Z 68 [] [.int (if (if (f_Model_kindIn W u) = (2 : Int32) then (1 : Int32) else (0 : Int32)) = (0 : Int32) then ((W 0) ((9 + (8 * u)) + 2)) + q3.1 else -(((W 0) ((9 + (8 * u)) + 2)) + q3.1))] (ov h b (modL b lane many items spare stat tape taped fk fp mat mst tok mval W past nac imgs kept gvn costs lst sets bst mlo mal mpr lak q3.2.1 q3.2.2))) (fun K => ?_) ?_
    · refine r_if_eq X 67 dX8_plainSize_59 rfl (fun c3 => ?_) (fun c3 => ?_)
      · skip
        refine r_iload_n X 3 dX8_plainSize_67 rfl ?_
        refine SW.pick [] [] rfl ?_
        try simp only [if_pos c3] at K ⊢
        exact K
      · skip
        refine r_iload_n X 3 dX8_plainSize_62 rfl ?_
        refine r_ineg X dX8_plainSize_63 ?_
        refine r_goto X 68 dX8_plainSize_64 rfl ?_
        refine SW.pick [] [] rfl ?_
        try simp only [if_neg c3] at K ⊢
        exact K
    have hv_b : isV (ov h b (modL b lane many items spare stat tape taped fk fp mat mst tok mval W past nac imgs kept gvn costs lst sets bst mlo mal mpr lak q3.2.1 q3.2.2)) b (modL b lane many items spare stat tape taped fk fp mat mst tok mval W past nac imgs kept gvn costs lst sets bst mlo mal mpr lak q3.2.1 q3.2.2) := ov_isV
    try subst hf
    exact r_ireturn X Y dX8_plainSize_68 rfl rfl
  · rw [if_neg c2] at hf
    refine r_aload_n X 0 dX8_plainSize_19 rfl ?_
    refine r_bipush X (12 : Int32) dX8_plainSize_20 (by decide) ?_
    refine cl_X8_301 X (by decide) dX8_plainSize_22 (Nat.le_of_ble_eq_true rfl) (hv_b 0 _ rfl) (c_Model_begins  (by assumption)) ?_
    obtain ⟨q4, eq4⟩ : ∃ q, q = f_Model_begins trc ntr (12 : Int32) := ⟨_, rfl⟩
    rw [← eq4]
    rw [← eq4] at hf
    try dsimp only at hf
    have ht_q4 : q4.2 ≤ 16 := by rw [eq4]; exact begins_le (by assumption)
    have hv_b : isV (ov h b (modL b lane many items spare stat tape taped fk fp mat mst tok mval W past nac imgs kept gvn costs lst sets bst mlo mal mpr lak q4.1 q4.2)) b (modL b lane many items spare stat tape taped fk fp mat mst tok mval W past nac imgs kept gvn costs lst sets bst mlo mal mpr lak q4.1 q4.2) := ov_isV
    refine r_aload_n X 0 dX8_plainSize_25 rfl ?_
    refine r_bipush X (11 : Int32) dX8_plainSize_26 (by decide) ?_
    refine cl_X8_301 X (by decide) dX8_plainSize_28 (Nat.le_of_ble_eq_true rfl) (hv_b 0 _ rfl) (c_Model_begins  (by assumption)) ?_
    obtain ⟨q5, eq5⟩ : ∃ q, q = f_Model_begins q4.1 q4.2 (11 : Int32) := ⟨_, rfl⟩
    rw [← eq5]
    rw [← eq5] at hf
    try dsimp only at hf
    have ht_q5 : q5.2 ≤ 16 := by rw [eq5]; exact begins_le (by assumption)
    have hv_b : isV (ov h b (modL b lane many items spare stat tape taped fk fp mat mst tok mval W past nac imgs kept gvn costs lst sets bst mlo mal mpr lak q5.1 q5.2)) b (modL b lane many items spare stat tape taped fk fp mat mst tok mval W past nac imgs kept gvn costs lst sets bst mlo mal mpr lak q5.1 q5.2) := ov_isV
    refine r_aload_n X 0 dX8_plainSize_31 rfl ?_
    refine r_bipush X (10 : Int32) dX8_plainSize_32 (by decide) ?_
    refine cl_X8_301 X (by decide) dX8_plainSize_34 (Nat.le_of_ble_eq_true rfl) (hv_b 0 _ rfl) (c_Model_begins  (by assumption)) ?_
    obtain ⟨q6, eq6⟩ : ∃ q, q = f_Model_begins q5.1 q5.2 (10 : Int32) := ⟨_, rfl⟩
    rw [← eq6]
    rw [← eq6] at hf
    try dsimp only at hf
    have ht_q6 : q6.2 ≤ 16 := by rw [eq6]; exact begins_le (by assumption)
    have hv_b : isV (ov h b (modL b lane many items spare stat tape taped fk fp mat mst tok mval W past nac imgs kept gvn costs lst sets bst mlo mal mpr lak q6.1 q6.2)) b (modL b lane many items spare stat tape taped fk fp mat mst tok mval W past nac imgs kept gvn costs lst sets bst mlo mal mpr lak q6.1 q6.2) := ov_isV
    refine r_aload_n X 0 dX8_plainSize_37 rfl ?_
    refine gf_X8_25 X dX8_plainSize_38 (hv_b 0 _ rfl) rfl ?_
    refine r_bipush X (9 : Int32) dX8_plainSize_41 (by decide) ?_
    refine r_bipush X (8 : Int32) dX8_plainSize_43 (by decide) ?_
    refine r_iload_n X 1 dX8_plainSize_45 rfl ?_
    refine r_imuln X (a := 8) (b := u) dX8_plainSize_46 ?_
    refine r_iaddn X (a := 9) (b := 8 * u) dX8_plainSize_47 ?_
    refine r_iconst X (2 : Int32) dX8_plainSize_48 (by decide) ?_
    refine r_iaddn X (a := 9 + (8 * u)) (b := 2) dX8_plainSize_49 ?_
    refine r_ialdn X (k0 := (9 + (8 * u)) + 2) dX8_plainSize_50 (hv_b (6 + 0) _ (modL_W (by omega))) (by omega) (by decide) ?_
    refine r_aload_n X 0 dX8_plainSize_51 rfl ?_
    refine r_iload_n X 1 dX8_plainSize_52 rfl ?_
    refine cl_X8_305 X (by decide) dX8_plainSize_53 (Nat.le_of_ble_eq_true rfl) (hv_b 0 _ rfl) (c_Model_plainMark  (by first | assumption | omega) (by assumption)) ?_
    obtain ⟨q7, eq7⟩ : ∃ q, q = f_Model_plainMark W q6.1 q6.2 u := ⟨_, rfl⟩
    rw [← eq7]
    rw [← eq7] at hf
    try dsimp only at hf
    have ht_q7 : q7.2.2 ≤ 16 := by rw [eq7]; exact plainMark_le (by assumption)
    have hv_b : isV (ov h b (modL b lane many items spare stat tape taped fk fp mat mst tok mval W past nac imgs kept gvn costs lst sets bst mlo mal mpr lak q7.2.1 q7.2.2)) b (modL b lane many items spare stat tape taped fk fp mat mst tok mval W past nac imgs kept gvn costs lst sets bst mlo mal mpr lak q7.2.1 q7.2.2) := ov_isV
    refine r_iadd X dX8_plainSize_56 ?_
    refine r_istore_n [(0, .ref b), (1, .int (nI u)), (2, .int (if (f_Model_kindIn W u) = (2 : Int32) then (1 : Int32) else (0 : Int32))), (3, .int (((W 0) ((9 + (8 * u)) + 2)) + q7.1))] X dX8_plainSize_57 rfl (by decide) rfl ?_
    refine r_iload_n X 2 dX8_plainSize_58 rfl ?_
    refine m_join (P := SW Z 68 [] [.int (if (if (f_Model_kindIn W u) = (2 : Int32) then (1 : Int32) else (0 : Int32)) = (0 : Int32) then ((W 0) ((9 + (8 * u)) + 2)) + q7.1 else -(((W 0) ((9 + (8 * u)) + 2)) + q7.1))] (ov h b (modL b lane many items spare stat tape taped fk fp mat mst tok mval W past nac imgs kept gvn costs lst sets bst mlo mal mpr lak q7.2.1 q7.2.2))) (fun K => ?_) ?_
    · refine r_if_eq X 67 dX8_plainSize_59 rfl (fun c4 => ?_) (fun c4 => ?_)
      · skip
        refine r_iload_n X 3 dX8_plainSize_67 rfl ?_
        refine SW.pick [] [] rfl ?_
        try simp only [if_pos c4] at K ⊢
        exact K
      · skip
        refine r_iload_n X 3 dX8_plainSize_62 rfl ?_
        refine r_ineg X dX8_plainSize_63 ?_
        refine r_goto X 68 dX8_plainSize_64 rfl ?_
        refine SW.pick [] [] rfl ?_
        try simp only [if_neg c4] at K ⊢
        exact K
    have hv_b : isV (ov h b (modL b lane many items spare stat tape taped fk fp mat mst tok mval W past nac imgs kept gvn costs lst sets bst mlo mal mpr lak q7.2.1 q7.2.2)) b (modL b lane many items spare stat tape taped fk fp mat mst tok mval W past nac imgs kept gvn costs lst sets bst mlo mal mpr lak q7.2.1 q7.2.2) := ov_isV
    try subst hf
    exact r_ireturn X Y dX8_plainSize_68 rfl rfl

theorem plainSize_le {W : Nat → Nat → Int32} {trc : Nat → Int32} {ntr : Nat} {u : Nat} (h : ntr ≤ 16) : (f_Model_plainSize W trc ntr u).2.2 ≤ 16 := by
  unfold f_Model_plainSize
  dsimp only
  (repeat' split) <;> (try dsimp only) <;> (repeat (first | assumption | apply begins_le | apply plainMark_le))

def f_Model_waterMark (W : Nat → Nat → Int32) (trc : Nat → Int32) (ntr : Nat) (u : Nat) : Int32 × (Nat → Int32) × Nat := ((fun q1 => ((fun q2 => ((fun q3 => ((nI u) - q3.1, q3.2.1, q3.2.2)) (f_Model_waterSize W q2.1 q2.2 u))) (f_Model_begins q1.1 q1.2 (20 : Int32)))) (f_Model_begins trc ntr (23 : Int32)))
set_option maxRecDepth 20000 in
set_option maxHeartbeats 4000000 in
theorem c_Model_waterMark {G : mG} {h : mHp} {b : Nat} {lane : Nat → Int32} {many : Nat → Nat} {items : Nat → Int32} {spare : Nat → Int32} {stat : Int32} {tape : Nat → Int32} {taped : Nat} {fk : Int32} {fp : Int32} {mat : Nat} {mst : Nat} {tok : Int32} {mval : Int32} {W : Nat → Nat → Int32} {past : Nat → Int32} {nac : Nat} {imgs : Nat → Int32} {kept : Nat → Int32} {gvn : Nat → Int32} {costs : Nat → Int32} {lst : Nat → Int32} {sets : Nat → Int32} {bst : Int32} {mlo : Int64} {mal : Int32} {mpr : Nat → Int64} {lak : Nat → Int64} {trc : Nat → Int32} {ntr : Nat} {u : Nat}   (hu : u < 4) (ht : ntr ≤ 16) : Ret G 2 mX8_waterMark [.ref b, .int (nI u)] (ov h b (modL b lane many items spare stat tape taped fk fp mat mst tok mval W past nac imgs kept gvn costs lst sets bst mlo mal mpr lak trc ntr)) (some (.int (f_Model_waterMark W trc ntr u).1)) (ov h b (modL b lane many items spare stat tape taped fk fp mat mst tok mval W past nac imgs kept gvn costs lst sets bst mlo mal mpr lak (f_Model_waterMark W trc ntr u).2.1 (f_Model_waterMark W trc ntr u).2.2)) := by
  generalize hf : f_Model_waterMark W trc ntr u = R
  unfold f_Model_waterMark at hf
  refine Ret.of [(0, .ref b), (1, .int (nI u))] (by decide) (Nat.le_of_ble_eq_true rfl) rfl ?_
  rintro Z rfl X Y
  have hv_b : isV (ov h b (modL b lane many items spare stat tape taped fk fp mat mst tok mval W past nac imgs kept gvn costs lst sets bst mlo mal mpr lak trc ntr)) b (modL b lane many items spare stat tape taped fk fp mat mst tok mval W past nac imgs kept gvn costs lst sets bst mlo mal mpr lak trc ntr) := ov_isV
  refine r_aload_n X 0 dX8_waterMark_0 rfl ?_
  refine r_bipush X (23 : Int32) dX8_waterMark_1 (by decide) ?_
  refine cl_X8_301 X (by decide) dX8_waterMark_3 (Nat.le_of_ble_eq_true rfl) (hv_b 0 _ rfl) (c_Model_begins  (by assumption)) ?_
  obtain ⟨q1, eq1⟩ : ∃ q, q = f_Model_begins trc ntr (23 : Int32) := ⟨_, rfl⟩
  rw [← eq1]
  rw [← eq1] at hf
  try dsimp only at hf
  have ht_q1 : q1.2 ≤ 16 := by rw [eq1]; exact begins_le (by assumption)
  have hv_b : isV (ov h b (modL b lane many items spare stat tape taped fk fp mat mst tok mval W past nac imgs kept gvn costs lst sets bst mlo mal mpr lak q1.1 q1.2)) b (modL b lane many items spare stat tape taped fk fp mat mst tok mval W past nac imgs kept gvn costs lst sets bst mlo mal mpr lak q1.1 q1.2) := ov_isV
  refine r_aload_n X 0 dX8_waterMark_6 rfl ?_
  refine r_bipush X (20 : Int32) dX8_waterMark_7 (by decide) ?_
  refine cl_X8_301 X (by decide) dX8_waterMark_9 (Nat.le_of_ble_eq_true rfl) (hv_b 0 _ rfl) (c_Model_begins  (by assumption)) ?_
  obtain ⟨q2, eq2⟩ : ∃ q, q = f_Model_begins q1.1 q1.2 (20 : Int32) := ⟨_, rfl⟩
  rw [← eq2]
  rw [← eq2] at hf
  try dsimp only at hf
  have ht_q2 : q2.2 ≤ 16 := by rw [eq2]; exact begins_le (by assumption)
  have hv_b : isV (ov h b (modL b lane many items spare stat tape taped fk fp mat mst tok mval W past nac imgs kept gvn costs lst sets bst mlo mal mpr lak q2.1 q2.2)) b (modL b lane many items spare stat tape taped fk fp mat mst tok mval W past nac imgs kept gvn costs lst sets bst mlo mal mpr lak q2.1 q2.2) := ov_isV
  refine r_iload_n X 1 dX8_waterMark_12 rfl ?_
  refine r_aload_n X 0 dX8_waterMark_13 rfl ?_
  refine r_iload_n X 1 dX8_waterMark_14 rfl ?_
  refine cl_X8_308 X (by decide) dX8_waterMark_15 (Nat.le_of_ble_eq_true rfl) (hv_b 0 _ rfl) (c_Model_waterSize  (by first | assumption | omega) (by assumption)) ?_
  obtain ⟨q3, eq3⟩ : ∃ q, q = f_Model_waterSize W q2.1 q2.2 u := ⟨_, rfl⟩
  rw [← eq3]
  rw [← eq3] at hf
  try dsimp only at hf
  have ht_q3 : q3.2.2 ≤ 16 := by rw [eq3]; exact waterSize_le (by assumption)
  have hv_b : isV (ov h b (modL b lane many items spare stat tape taped fk fp mat mst tok mval W past nac imgs kept gvn costs lst sets bst mlo mal mpr lak q3.2.1 q3.2.2)) b (modL b lane many items spare stat tape taped fk fp mat mst tok mval W past nac imgs kept gvn costs lst sets bst mlo mal mpr lak q3.2.1 q3.2.2) := ov_isV
  refine r_isub X dX8_waterMark_18 ?_
  try subst hf
  exact r_ireturn X Y dX8_waterMark_19 rfl rfl

theorem waterMark_le {W : Nat → Nat → Int32} {trc : Nat → Int32} {ntr : Nat} {u : Nat} (h : ntr ≤ 16) : (f_Model_waterMark W trc ntr u).2.2 ≤ 16 := by
  unfold f_Model_waterMark
  dsimp only
  (repeat' split) <;> (try dsimp only) <;> (repeat (first | assumption | apply begins_le | apply waterSize_le))

def f_Model_ask (W : Nat → Nat → Int32) (trc : Nat → Int32) (ntr : Nat) (u : Int32) (wh : Int32) (U : Nat) : Int32 × (Nat → Int32) × Nat := (if (f_Model_isUnit u U) = (0 : Int32) then ((-1000001 : Int32), trc, ntr) else (if (f_Model_in wh (0 : Int32) (1 : Int32)) = (0 : Int32) then ((-1000001 : Int32), trc, ntr) else (if wh = (0 : Int32) then (if (if (f_Model_kindIn W (u.toNatClampNeg)) < (4 : Int32) then (0 : Int32) else (1 : Int32)) = (0 : Int32) then ((fun q3 => (q3.1, q3.2.1, q3.2.2)) (f_Model_plainSize W trc 0 (u.toNatClampNeg))) else ((fun q4 => (q4.1, q4.2.1, q4.2.2)) (f_Model_waterSize W trc 0 (u.toNatClampNeg)))) else (if (if (f_Model_kindIn W (u.toNatClampNeg)) < (4 : Int32) then (0 : Int32) else (1 : Int32)) = (0 : Int32) then ((fun q1 => (q1.1, q1.2.1, q1.2.2)) (f_Model_plainMark W trc 0 (u.toNatClampNeg))) else ((fun q2 => (q2.1, q2.2.1, q2.2.2)) (f_Model_waterMark W trc 0 (u.toNatClampNeg)))))))
set_option maxRecDepth 20000 in
set_option maxHeartbeats 4000000 in
theorem c_Model_ask {G : mG} {h : mHp} {b : Nat} {lane : Nat → Int32} {many : Nat → Nat} {items : Nat → Int32} {spare : Nat → Int32} {stat : Int32} {tape : Nat → Int32} {taped : Nat} {fk : Int32} {fp : Int32} {mat : Nat} {mst : Nat} {tok : Int32} {mval : Int32} {W : Nat → Nat → Int32} {past : Nat → Int32} {nac : Nat} {imgs : Nat → Int32} {kept : Nat → Int32} {gvn : Nat → Int32} {costs : Nat → Int32} {lst : Nat → Int32} {sets : Nat → Int32} {bst : Int32} {mlo : Int64} {mal : Int32} {mpr : Nat → Int64} {lak : Nat → Int64} {trc : Nat → Int32} {ntr : Nat} {u : Int32} {wh : Int32} {U : Nat}   (h0 : W 0 0 = nI U) (hU : U ≤ 4) : Ret G 3 mX8_ask [.ref b, .int u, .int wh] (ov h b (modL b lane many items spare stat tape taped fk fp mat mst tok mval W past nac imgs kept gvn costs lst sets bst mlo mal mpr lak trc ntr)) (some (.int (f_Model_ask W trc ntr u wh U).1)) (ov h b (modL b lane many items spare stat tape taped fk fp mat mst tok mval W past nac imgs kept gvn costs lst sets bst mlo mal mpr lak (f_Model_ask W trc ntr u wh U).2.1 (f_Model_ask W trc ntr u wh U).2.2)) := by
  generalize hf : f_Model_ask W trc ntr u wh U = R
  unfold f_Model_ask at hf
  refine Ret.of [(0, .ref b), (1, .int u), (2, .int wh)] (by decide) (Nat.le_of_ble_eq_true rfl) rfl ?_
  rintro Z rfl X Y
  have hv_b : isV (ov h b (modL b lane many items spare stat tape taped fk fp mat mst tok mval W past nac imgs kept gvn costs lst sets bst mlo mal mpr lak trc ntr)) b (modL b lane many items spare stat tape taped fk fp mat mst tok mval W past nac imgs kept gvn costs lst sets bst mlo mal mpr lak trc ntr) := ov_isV
  refine r_aload_n X 0 dX8_ask_0 rfl ?_
  refine r_iload_n X 1 dX8_ask_1 rfl ?_
  refine cl_X8_220 X (by decide) dX8_ask_2 (Nat.le_of_ble_eq_true rfl) (hv_b 0 _ rfl) (c_Model_isUnit hv_b (by first | assumption | omega) (by first | assumption | omega)) ?_
  refine r_if_eq X 17 dX8_ask_5 rfl (fun cu => ?_) (fun cu => ?_)
  · rw [if_pos cu] at hf
    refine r_ldc X dX8_ask_17 kk_X8_80 ?_
    try subst hf
    exact r_ireturn X Y dX8_ask_19 rfl rfl
  · rw [if_neg cu] at hf
    obtain ⟨k, hk, rfl⟩ := isUnit_nat hU cu
    try simp only [nI_clamp (show k < 2 ^ 31 by omega)] at hf
    refine r_iload_n X 2 dX8_ask_8 rfl ?_
    refine r_iconst X (0 : Int32) dX8_ask_9 (by decide) ?_
    refine r_iconst X (1 : Int32) dX8_ask_10 (by decide) ?_
    refine cl_X8_72 X (by decide) dX8_ask_11 (Nat.le_of_ble_eq_true rfl) (c_Model_in  ) ?_
    refine r_if_ne X 20 dX8_ask_14 rfl (fun c1 => ?_) (fun c1 => ?_)
    · rw [if_neg c1] at hf
      refine r_aload_n X 0 dX8_ask_20 rfl ?_
      refine r_iconst X (0 : Int32) dX8_ask_21 (by decide) ?_
      refine pf_X8_298 X dX8_ask_22 (hv_b 0 _ rfl) (Nat.le_of_ble_eq_true rfl) ?_
      refine SW.heq (h2 := (ov h b (modL b lane many items spare stat tape taped fk fp mat mst tok mval W past nac imgs kept gvn costs lst sets bst mlo mal mpr lak trc 0))) (ov_up 0 (Nat.le_of_ble_eq_true rfl) rfl) ?_
      have hv_b : isV (ov h b (modL b lane many items spare stat tape taped fk fp mat mst tok mval W past nac imgs kept gvn costs lst sets bst mlo mal mpr lak trc 0)) b (modL b lane many items spare stat tape taped fk fp mat mst tok mval W past nac imgs kept gvn costs lst sets bst mlo mal mpr lak trc 0) := ov_isV
      refine r_aload_n X 0 dX8_ask_25 rfl ?_
      refine r_iload_n X 1 dX8_ask_26 rfl ?_
      refine cl_X8_295 X (by decide) dX8_ask_27 (Nat.le_of_ble_eq_true rfl) (hv_b 0 _ rfl) (c_Model_kindIn hv_b (by first | assumption | omega)) ?_
      refine r_iconst X (4 : Int32) dX8_ask_30 (by decide) ?_
      refine m_join (P := SW Z 39 [(0, .ref b), (1, .int (nI k)), (2, .int wh)] [.int (if (f_Model_kindIn W k) < (4 : Int32) then (0 : Int32) else (1 : Int32))] (ov h b (modL b lane many items spare stat tape taped fk fp mat mst tok mval W past nac imgs kept gvn costs lst sets bst mlo mal mpr lak trc 0))) (fun K => ?_) ?_
      · refine r_icmp_lt X 38 dX8_ask_31 rfl (fun c2 => ?_) (fun c2 => ?_)
        · skip
          refine r_iconst X (0 : Int32) dX8_ask_38 (by decide) ?_
          try simp only [if_pos c2] at K ⊢
          exact K
        · skip
          refine r_iconst X (1 : Int32) dX8_ask_34 (by decide) ?_
          refine r_goto X 39 dX8_ask_35 rfl ?_
          try simp only [if_neg c2] at K ⊢
          exact K
      have hv_b : isV (ov h b (modL b lane many items spare stat tape taped fk fp mat mst tok mval W past nac imgs kept gvn costs lst sets bst mlo mal mpr lak trc 0)) b (modL b lane many items spare stat tape taped fk fp mat mst tok mval W past nac imgs kept gvn costs lst sets bst mlo mal mpr lak trc 0) := ov_isV
      have hz : 0 ≤ 16 := by decide
      refine r_istore_n [(0, .ref b), (1, .int (nI k)), (2, .int wh), (3, .int (if (f_Model_kindIn W k) < (4 : Int32) then (0 : Int32) else (1 : Int32)))] X dX8_ask_39 rfl (by decide) rfl ?_
      refine r_iload_n X 2 dX8_ask_40 rfl ?_
      refine r_if_ne X 62 dX8_ask_41 rfl (fun c3 => ?_) (fun c3 => ?_)
      · rw [if_neg c3] at hf
        refine r_iload_n X 3 dX8_ask_62 rfl ?_
        refine r_if_eq X 74 dX8_ask_63 rfl (fun c4 => ?_) (fun c4 => ?_)
        · rw [if_pos c4] at hf
          refine r_aload_n X 0 dX8_ask_74 rfl ?_
          refine r_iload_n X 1 dX8_ask_75 rfl ?_
          refine cl_X8_305 X (by decide) dX8_ask_76 (Nat.le_of_ble_eq_true rfl) (hv_b 0 _ rfl) (c_Model_plainMark  (by first | assumption | omega) (by assumption)) ?_
          obtain ⟨q1, eq1⟩ : ∃ q, q = f_Model_plainMark W trc 0 k := ⟨_, rfl⟩
          rw [← eq1]
          rw [← eq1] at hf
          try dsimp only at hf
          have ht_q1 : q1.2.2 ≤ 16 := by rw [eq1]; exact plainMark_le (by assumption)
          have hv_b : isV (ov h b (modL b lane many items spare stat tape taped fk fp mat mst tok mval W past nac imgs kept gvn costs lst sets bst mlo mal mpr lak q1.2.1 q1.2.2)) b (modL b lane many items spare stat tape taped fk fp mat mst tok mval W past nac imgs kept gvn costs lst sets bst mlo mal mpr lak q1.2.1 q1.2.2) := ov_isV
          try subst hf
          exact r_ireturn X Y dX8_ask_79 rfl rfl
        · rw [if_neg c4] at hf
          refine r_aload_n X 0 dX8_ask_66 rfl ?_
          refine r_iload_n X 1 dX8_ask_67 rfl ?_
          refine cl_X8_314 X (by decide) dX8_ask_68 (Nat.le_of_ble_eq_true rfl) (hv_b 0 _ rfl) (c_Model_waterMark  (by first | assumption | omega) (by assumption)) ?_
          obtain ⟨q2, eq2⟩ : ∃ q, q = f_Model_waterMark W trc 0 k := ⟨_, rfl⟩
          rw [← eq2]
          rw [← eq2] at hf
          try dsimp only at hf
          have ht_q2 : q2.2.2 ≤ 16 := by rw [eq2]; exact waterMark_le (by assumption)
          have hv_b : isV (ov h b (modL b lane many items spare stat tape taped fk fp mat mst tok mval W past nac imgs kept gvn costs lst sets bst mlo mal mpr lak q2.2.1 q2.2.2)) b (modL b lane many items spare stat tape taped fk fp mat mst tok mval W past nac imgs kept gvn costs lst sets bst mlo mal mpr lak q2.2.1 q2.2.2) := ov_isV
          refine r_goto X 79 dX8_ask_71 rfl ?_
          try subst hf
          exact r_ireturn X Y dX8_ask_79 rfl rfl
      · rw [if_pos c3] at hf
        refine r_iload_n X 3 dX8_ask_44 rfl ?_
        refine r_if_eq X 56 dX8_ask_45 rfl (fun c5 => ?_) (fun c5 => ?_)
        · rw [if_pos c5] at hf
          refine r_aload_n X 0 dX8_ask_56 rfl ?_
          refine r_iload_n X 1 dX8_ask_57 rfl ?_
          refine cl_X8_311 X (by decide) dX8_ask_58 (Nat.le_of_ble_eq_true rfl) (hv_b 0 _ rfl) (c_Model_plainSize  (by first | assumption | omega) (by assumption)) ?_
          obtain ⟨q3, eq3⟩ : ∃ q, q = f_Model_plainSize W trc 0 k := ⟨_, rfl⟩
          rw [← eq3]
          rw [← eq3] at hf
          try dsimp only at hf
          have ht_q3 : q3.2.2 ≤ 16 := by rw [eq3]; exact plainSize_le (by assumption)
          have hv_b : isV (ov h b (modL b lane many items spare stat tape taped fk fp mat mst tok mval W past nac imgs kept gvn costs lst sets bst mlo mal mpr lak q3.2.1 q3.2.2)) b (modL b lane many items spare stat tape taped fk fp mat mst tok mval W past nac imgs kept gvn costs lst sets bst mlo mal mpr lak q3.2.1 q3.2.2) := ov_isV
          try subst hf
          exact r_ireturn X Y dX8_ask_61 rfl rfl
        · rw [if_neg c5] at hf
          refine r_aload_n X 0 dX8_ask_48 rfl ?_
          refine r_iload_n X 1 dX8_ask_49 rfl ?_
          refine cl_X8_308 X (by decide) dX8_ask_50 (Nat.le_of_ble_eq_true rfl) (hv_b 0 _ rfl) (c_Model_waterSize  (by first | assumption | omega) (by assumption)) ?_
          obtain ⟨q4, eq4⟩ : ∃ q, q = f_Model_waterSize W trc 0 k := ⟨_, rfl⟩
          rw [← eq4]
          rw [← eq4] at hf
          try dsimp only at hf
          have ht_q4 : q4.2.2 ≤ 16 := by rw [eq4]; exact waterSize_le (by assumption)
          have hv_b : isV (ov h b (modL b lane many items spare stat tape taped fk fp mat mst tok mval W past nac imgs kept gvn costs lst sets bst mlo mal mpr lak q4.2.1 q4.2.2)) b (modL b lane many items spare stat tape taped fk fp mat mst tok mval W past nac imgs kept gvn costs lst sets bst mlo mal mpr lak q4.2.1 q4.2.2) := ov_isV
          refine r_goto X 61 dX8_ask_53 rfl ?_
          try subst hf
          exact r_ireturn X Y dX8_ask_61 rfl rfl
    · rw [if_pos c1] at hf
      refine r_ldc X dX8_ask_17 kk_X8_80 ?_
      try subst hf
      exact r_ireturn X Y dX8_ask_19 rfl rfl

theorem trace_nat {v : Int32} {N : Nat} (hN : N ≤ 16) (h : ¬ f_Model_in v 0 (nI N - 1) = 0) : ∃ k, k < N ∧ v = nI k := in_nat (by omega) h
theorem isPart_nat {many : Nat → Nat} {r n : Nat} {i : Int32} (hm : many r ≤ 40) (hn : n ≤ 40) (h : ¬ f_Model_isPart many r i (nI n) = 0) : ∃ j, j + n ≤ many r ∧ i = nI j := by
  unfold f_Model_isPart at h
  by_cases c1 : i < 0
  · rw [if_pos c1] at h; exact absurd rfl h
  · rw [if_neg c1] at h
    by_cases c2 : nI n < (0 : Int32)
    · rw [if_pos c2] at h; exact absurd rfl h
    · rw [if_neg c2] at h
      by_cases c3 : nI (many r) < i
      · rw [if_pos c3] at h; exact absurd rfl h
      · rw [if_neg c3] at h
        obtain ⟨j, hj, rfl⟩ := le_nat c1 c3
        rw [pk_sub hj] at h
        by_cases c4 : nI (many r - j) < nI n
        · rw [if_pos c4] at h; exact absurd rfl h
        · refine ⟨j, ?_, rfl⟩
          rcases Nat.lt_or_ge (many r - j) n with q | q
          · exact absurd (nI_lt q (by omega)) c4
          · omega
theorem isHour_in {v : Int32} {H : Nat} (hH : H ≤ 6) (h : ¬ f_Model_isHour v H = 0) : vp_in v 6 := by
  obtain ⟨k, hk, rfl⟩ := isHour_nat hH h
  exact vp_in_nI (by omega) (by decide)

def f_Model_trace (trc : Nat → Int32) (ntr : Nat) (i : Int32) : Int32 := (if (f_Model_in i (0 : Int32) ((nI ntr) - (1 : Int32))) = (0 : Int32) then (-1000000 : Int32) else trc (i.toNatClampNeg))
set_option maxRecDepth 20000 in
set_option maxHeartbeats 4000000 in
theorem c_Model_trace {G : mG} {h : mHp} {b : Nat} {lane : Nat → Int32} {many : Nat → Nat} {items : Nat → Int32} {spare : Nat → Int32} {stat : Int32} {tape : Nat → Int32} {taped : Nat} {fk : Int32} {fp : Int32} {mat : Nat} {mst : Nat} {tok : Int32} {mval : Int32} {W : Nat → Nat → Int32} {past : Nat → Int32} {nac : Nat} {imgs : Nat → Int32} {kept : Nat → Int32} {gvn : Nat → Int32} {costs : Nat → Int32} {lst : Nat → Int32} {sets : Nat → Int32} {bst : Int32} {mlo : Int64} {mal : Int32} {mpr : Nat → Int64} {lak : Nat → Int64} {trc : Nat → Int32} {ntr : Nat} {i : Int32} (hv_b : isV h b (modL b lane many items spare stat tape taped fk fp mat mst tok mval W past nac imgs kept gvn costs lst sets bst mlo mal mpr lak trc ntr))  (ht : ntr ≤ 16) : Ret G 1 mX8_trace [.ref b, .int i] h (some (.int (f_Model_trace trc ntr i))) h := by
  generalize hf : f_Model_trace trc ntr i = R
  unfold f_Model_trace at hf
  refine Ret.of [(0, .ref b), (1, .int i)] (by decide) (Nat.le_of_ble_eq_true rfl) rfl ?_
  rintro Z rfl X Y
  refine r_iload_n X 1 dX8_trace_0 rfl ?_
  refine r_iconst X (0 : Int32) dX8_trace_1 (by decide) ?_
  refine r_aload_n X 0 dX8_trace_2 rfl ?_
  refine gf_X8_298 X dX8_trace_3 (hv_b 0 _ rfl) rfl ?_
  refine r_iconst X (1 : Int32) dX8_trace_6 (by decide) ?_
  refine r_isub X dX8_trace_7 ?_
  refine cl_X8_72 X (by decide) dX8_trace_8 (Nat.le_of_ble_eq_true rfl) (c_Model_in  ) ?_
  refine r_if_eq X 23 dX8_trace_11 rfl (fun ci => ?_) (fun ci => ?_)
  · rw [if_pos ci] at hf
    refine r_ldc X dX8_trace_23 kk_X8_66 ?_
    try subst hf
    exact r_ireturn X Y dX8_trace_25 rfl rfl
  · rw [if_neg ci] at hf
    obtain ⟨j, hj, rfl⟩ := trace_nat ht ci
    try simp only [nI_clamp (show j < 2 ^ 31 by omega)] at hf
    refine r_aload_n X 0 dX8_trace_14 rfl ?_
    refine gf_X8_63 X dX8_trace_15 (hv_b 0 _ rfl) rfl ?_
    refine r_iload_n X 1 dX8_trace_18 rfl ?_
    refine r_ialdn X (k0 := j) dX8_trace_19 (hv_b 18 _ rfl) (by omega) (by decide) ?_
    refine r_goto X 25 dX8_trace_20 rfl ?_
    try subst hf
    exact r_ireturn X Y dX8_trace_25 rfl rfl

def f_Model_count_L42s (lane : Nat → Int32) (k42 : Nat) (x2 : Int32) : Int32 := x2 + (if (f_Model_isMissing lane k42) = (0 : Int32) then (1 : Int32) else (0 : Int32))
def f_Model_count_L42 (lane : Nat → Int32) (x2 : Int32) : Nat → Int32
  | 0 => x2
  | k42 + 1 => f_Model_count_L42s lane k42 (f_Model_count_L42 lane x2 k42)
def f_Model_count_L88s (W : Nat → Nat → Int32) (k88 : Nat) (x2 : Int32) : Int32 := x2 + ((W 0) (3 + k88))
def f_Model_count_L88 (W : Nat → Nat → Int32) (x2 : Int32) : Nat → Int32
  | 0 => x2
  | k88 + 1 => f_Model_count_L88s W k88 (f_Model_count_L88 W x2 k88)
def f_Model_count (lane : Nat → Int32) (taped : Nat) (W : Nat → Nat → Int32) (nac : Nat) (wh : Int32) (U : Nat) (Hh : Nat) : Int32 := (if wh = (0 : Int32) then (f_Model_count_L42 lane (0 : Int32) 8) else (if wh = (1 : Int32) then nI U else (if wh = (2 : Int32) then nI Hh else (if wh = (3 : Int32) then (f_Model_count_L88 W (0 : Int32) Hh) else (if wh = (4 : Int32) then nI nac else (if wh = (5 : Int32) then nI taped else (-1000001 : Int32)))))))
set_option maxRecDepth 20000 in
set_option maxHeartbeats 4000000 in
theorem c_Model_count {G : mG} {h : mHp} {b : Nat} {lane : Nat → Int32} {many : Nat → Nat} {items : Nat → Int32} {spare : Nat → Int32} {stat : Int32} {tape : Nat → Int32} {taped : Nat} {fk : Int32} {fp : Int32} {mat : Nat} {mst : Nat} {tok : Int32} {mval : Int32} {W : Nat → Nat → Int32} {past : Nat → Int32} {nac : Nat} {imgs : Nat → Int32} {kept : Nat → Int32} {gvn : Nat → Int32} {costs : Nat → Int32} {lst : Nat → Int32} {sets : Nat → Int32} {bst : Int32} {mlo : Int64} {mal : Int32} {mpr : Nat → Int64} {lak : Nat → Int64} {trc : Nat → Int32} {ntr : Nat} {wh : Int32} {U : Nat} {Hh : Nat} (hv_b : isV h b (modL b lane many items spare stat tape taped fk fp mat mst tok mval W past nac imgs kept gvn costs lst sets bst mlo mal mpr lak trc ntr))  (h0 : W 0 0 = nI U) (hU : U ≤ 4) (h1 : W 0 1 = nI Hh) (hH : Hh ≤ 6) : Ret G 1 mX8_count [.ref b, .int wh] h (some (.int (f_Model_count lane taped W nac wh U Hh))) h := by
  generalize hf : f_Model_count lane taped W nac wh U Hh = R
  unfold f_Model_count at hf
  refine Ret.of [(0, .ref b), (1, .int wh)] (by decide) (Nat.le_of_ble_eq_true rfl) rfl ?_
  rintro Z rfl X Y
  refine r_iconst X (0 : Int32) dX8_count_0 (by decide) ?_
  refine r_istore_n [(0, .ref b), (1, .int wh), (2, .int (0 : Int32))] X dX8_count_1 rfl (by decide) rfl ?_
  refine r_iload_n X 1 dX8_count_2 rfl ?_
  by_cases c1 : wh = (0 : Int32)
  · rw [if_pos c1] at hf
    refine r_tsin X 40 dX8_count_3 (by rw [c1]; decide) (by rw [c1]; decide) (by rw [c1]; rfl) rfl ?_
    refine r_iconst X (0 : Int32) dX8_count_40 (by decide) ?_
    refine r_istore_n [(0, .ref b), (1, .int wh), (2, .int (0 : Int32)), (3, .int (0 : Int32))] X dX8_count_41 rfl (by decide) rfl ?_
    refine SW.pick [0, 2, 3] [(0, .ref b), (2, .int (0 : Int32)), (3, .int (0 : Int32))] rfl ?_
    refine loop_up (P := fun k3 => SW Z 42 [(0, .ref b), (2, .int (f_Model_count_L42 lane (0 : Int32) k3)), (3, .int (nI k3))] [] h) 8 ?_ ?_ 0 (Nat.zero_le _)
    rotate_left
    · intro k3 hk3 ih
      refine r_iload_n X 2 dX8_count_42 rfl ?_
      refine r_bipush X (8 : Int32) dX8_count_43 (by decide) ?_
      refine r_icmp_ge X 70 dX8_count_45 rfl (fun z => absurd (nI_lt (a := k3) (b := 8) (by omega) (by omega)) z) (fun _ => ?_)
      refine r_iload_n X 1 dX8_count_48 rfl ?_
      refine r_aload_n X 0 dX8_count_49 rfl ?_
      refine r_iload_n X 2 dX8_count_50 rfl ?_
      refine cl_X8_88 X (by decide) dX8_count_51 (Nat.le_of_ble_eq_true rfl) (hv_b 0 _ rfl) (c_Model_isMissing hv_b (by first | assumption | omega)) ?_
      refine m_join (P := SW Z 62 [(0, .ref b), (3, .int (nI k3))] [.int (if (f_Model_isMissing lane k3) = (0 : Int32) then (1 : Int32) else (0 : Int32)), .int (f_Model_count_L42 lane (0 : Int32) k3)] h) (fun K => ?_) ?_
      · refine r_if_eq X 61 dX8_count_54 rfl (fun c4 => ?_) (fun c4 => ?_)
        · skip
          refine r_iconst X (1 : Int32) dX8_count_61 (by decide) ?_
          refine SW.pick [0, 2] [(0, .ref b), (3, .int (nI k3))] rfl ?_
          try simp only [if_pos c4] at K ⊢
          exact K
        · skip
          refine r_iconst X (0 : Int32) dX8_count_57 (by decide) ?_
          refine r_goto X 62 dX8_count_58 rfl ?_
          refine SW.pick [0, 2] [(0, .ref b), (3, .int (nI k3))] rfl ?_
          try simp only [if_neg c4] at K ⊢
          exact K
      refine r_iadd X dX8_count_62 ?_
      refine r_istore_n [(0, .ref b), (2, .int ((f_Model_count_L42 lane (0 : Int32) k3) + (if (f_Model_isMissing lane k3) = (0 : Int32) then (1 : Int32) else (0 : Int32)))), (3, .int (nI k3))] X dX8_count_63 rfl (by decide) rfl ?_
      refine r_iinc [(0, .ref b), (2, .int ((f_Model_count_L42 lane (0 : Int32) k3) + (if (f_Model_isMissing lane k3) = (0 : Int32) then (1 : Int32) else (0 : Int32)))), (3, .int (nI (k3 + 1)))] X (nI (k3 + 1)) 2 dX8_count_64 rfl (nI_succ _).symm (by decide) rfl ?_
      refine r_goto X 42 dX8_count_67 rfl ?_
      exact ih
    refine r_iload_n X 2 dX8_count_42 rfl ?_
    refine r_bipush X (8 : Int32) dX8_count_43 (by decide) ?_
    refine r_icmp_ge X 70 dX8_count_45 rfl (fun _ => ?_) (fun z => absurd z (nI_nlt (a := 8) (b := 8) (by omega) (by omega)))
    refine r_iload_n X 1 dX8_count_70 rfl ?_
    try subst hf
    exact r_ireturn X Y dX8_count_71 rfl rfl
  · rw [if_neg c1] at hf
    by_cases c5 : wh = (1 : Int32)
    · rw [if_pos c5] at hf
      refine r_tsin X 72 dX8_count_3 (by rw [c5]; decide) (by rw [c5]; decide) (by rw [c5]; rfl) rfl ?_
      refine r_aload_n X 0 dX8_count_72 rfl ?_
      refine gf_X8_25 X dX8_count_73 (hv_b 0 _ rfl) rfl ?_
      refine r_iconst X (0 : Int32) dX8_count_76 (by decide) ?_
      refine r_ialdv X (v := nI U) (k0 := 0) dX8_count_77 (hv_b (6 + 0) _ (modL_W (by omega))) (by omega) (by decide) h0 ?_
      try subst hf
      exact r_ireturn X Y dX8_count_78 rfl rfl
    · rw [if_neg c5] at hf
      by_cases c6 : wh = (2 : Int32)
      · rw [if_pos c6] at hf
        refine r_tsin X 79 dX8_count_3 (by rw [c6]; decide) (by rw [c6]; decide) (by rw [c6]; rfl) rfl ?_
        refine r_aload_n X 0 dX8_count_79 rfl ?_
        refine gf_X8_25 X dX8_count_80 (hv_b 0 _ rfl) rfl ?_
        refine r_iconst X (1 : Int32) dX8_count_83 (by decide) ?_
        refine r_ialdv X (v := nI Hh) (k0 := 1) dX8_count_84 (hv_b (6 + 0) _ (modL_W (by omega))) (by omega) (by decide) h1 ?_
        try subst hf
        exact r_ireturn X Y dX8_count_85 rfl rfl
      · rw [if_neg c6] at hf
        by_cases c7 : wh = (3 : Int32)
        · rw [if_pos c7] at hf
          refine r_tsin X 86 dX8_count_3 (by rw [c7]; decide) (by rw [c7]; decide) (by rw [c7]; rfl) rfl ?_
          refine r_iconst X (0 : Int32) dX8_count_86 (by decide) ?_
          refine r_istore_n [(0, .ref b), (1, .int wh), (2, .int (0 : Int32)), (3, .int (0 : Int32))] X dX8_count_87 rfl (by decide) rfl ?_
          refine SW.pick [0, 2, 3] [(0, .ref b), (2, .int (0 : Int32)), (3, .int (0 : Int32))] rfl ?_
          refine loop_up (P := fun k8 => SW Z 88 [(0, .ref b), (2, .int (f_Model_count_L88 W (0 : Int32) k8)), (3, .int (nI k8))] [] h) Hh ?_ ?_ 0 (Nat.zero_le _)
          rotate_left
          · intro k8 hk8 ih
            refine r_iload_n X 2 dX8_count_88 rfl ?_
            refine r_aload_n X 0 dX8_count_89 rfl ?_
            refine gf_X8_25 X dX8_count_90 (hv_b 0 _ rfl) rfl ?_
            refine r_iconst X (1 : Int32) dX8_count_93 (by decide) ?_
            refine r_ialdv X (v := nI Hh) (k0 := 1) dX8_count_94 (hv_b (6 + 0) _ (modL_W (by omega))) (by omega) (by decide) h1 ?_
            refine r_icmp_ge X 115 dX8_count_95 rfl (fun z => absurd (nI_lt (a := k8) (b := Hh) (by omega) (by omega)) z) (fun _ => ?_)
            refine r_iload_n X 1 dX8_count_98 rfl ?_
            refine r_aload_n X 0 dX8_count_99 rfl ?_
            refine gf_X8_25 X dX8_count_100 (hv_b 0 _ rfl) rfl ?_
            refine r_iconst X (3 : Int32) dX8_count_103 (by decide) ?_
            refine r_iload_n X 2 dX8_count_104 rfl ?_
            refine r_iaddn X (a := 3) (b := k8) dX8_count_105 ?_
            refine r_ialdn X (k0 := 3 + k8) dX8_count_106 (hv_b (6 + 0) _ (modL_W (by omega))) (by omega) (by decide) ?_
            refine r_iadd X dX8_count_107 ?_
            refine r_istore_n [(0, .ref b), (2, .int ((f_Model_count_L88 W (0 : Int32) k8) + ((W 0) (3 + k8)))), (3, .int (nI k8))] X dX8_count_108 rfl (by decide) rfl ?_
            refine r_iinc [(0, .ref b), (2, .int ((f_Model_count_L88 W (0 : Int32) k8) + ((W 0) (3 + k8)))), (3, .int (nI (k8 + 1)))] X (nI (k8 + 1)) 2 dX8_count_109 rfl (nI_succ _).symm (by decide) rfl ?_
            refine r_goto X 88 dX8_count_112 rfl ?_
            exact ih
          refine r_iload_n X 2 dX8_count_88 rfl ?_
          refine r_aload_n X 0 dX8_count_89 rfl ?_
          refine gf_X8_25 X dX8_count_90 (hv_b 0 _ rfl) rfl ?_
          refine r_iconst X (1 : Int32) dX8_count_93 (by decide) ?_
          refine r_ialdv X (v := nI Hh) (k0 := 1) dX8_count_94 (hv_b (6 + 0) _ (modL_W (by omega))) (by omega) (by decide) h1 ?_
          refine r_icmp_ge X 115 dX8_count_95 rfl (fun _ => ?_) (fun z => absurd z (nI_nlt (a := Hh) (b := Hh) (by omega) (by omega)))
          refine r_iload_n X 1 dX8_count_115 rfl ?_
          try subst hf
          exact r_ireturn X Y dX8_count_116 rfl rfl
        · rw [if_neg c7] at hf
          by_cases c9 : wh = (4 : Int32)
          · rw [if_pos c9] at hf
            refine r_tsin X 117 dX8_count_3 (by rw [c9]; decide) (by rw [c9]; decide) (by rw [c9]; rfl) rfl ?_
            refine r_aload_n X 0 dX8_count_117 rfl ?_
            refine gf_X8_158 X dX8_count_118 (hv_b 0 _ rfl) rfl ?_
            try subst hf
            exact r_ireturn X Y dX8_count_121 rfl rfl
          · rw [if_neg c9] at hf
            by_cases c10 : wh = (5 : Int32)
            · rw [if_pos c10] at hf
              refine r_tsin X 122 dX8_count_3 (by rw [c10]; decide) (by rw [c10]; decide) (by rw [c10]; rfl) rfl ?_
              refine r_aload_n X 0 dX8_count_122 rfl ?_
              refine gf_X8_98 X dX8_count_123 (hv_b 0 _ rfl) rfl ?_
              try subst hf
              exact r_ireturn X Y dX8_count_126 rfl rfl
            · rw [if_neg c10] at hf
              refine r_tsout X 127 dX8_count_3 (by have a0 : ¬ wh.toInt = 0 := i32_ne c1; have a1 : ¬ wh.toInt = 1 := i32_ne c5; have a2 : ¬ wh.toInt = 2 := i32_ne c6; have a3 : ¬ wh.toInt = 3 := i32_ne c7; have a4 : ¬ wh.toInt = 4 := i32_ne c9; have a5 : ¬ wh.toInt = 5 := i32_ne c10; omega) rfl ?_
              refine r_ldc X dX8_count_127 kk_X8_80 ?_
              try subst hf
              exact r_ireturn X Y dX8_count_129 rfl rfl

def f_Model_planCost_L4 (W : Nat → Nat → Int32) (U : Nat) (Hh : Nat) : Nat → Int32 → Nat → (Nat → Int32) → (Int32 × Nat × (Nat → Int32)) ⊕ (Int32 × (Nat → Int32))
  | 0, y1, y2, gvnv => .inl (y1, y2, gvnv)
  | n + 1, y1, y2, gvnv => (if (nI y2) < (nI Hh) then (if (f_Model_isMet (W 0) y2 (f_Model_onAt (W 0) (nI y2) U) (f_Model_startingAt (W 0) (nI y2) U) U) = (0 : Int32) then .inr ((-1000000 : Int32), gvnv) else ((fun q1 => f_Model_planCost_L4 W U Hh n (y1 + q1.1) (y2 + 1) q1.2) (f_Model_shares W gvnv y2 (f_Model_onAt (W 0) (nI y2) U) (f_Model_startingAt (W 0) (nI y2) U) 0 U))) else .inl (y1, y2, gvnv))
def f_Model_planCost_L73 (W : Nat → Nat → Int32) (gvn : Nat → Int32) (U : Nat) (Hh : Nat) : Nat → Nat → (Nat) ⊕ (Int32 × (Nat → Int32))
  | 0, y2 => .inl y2
  | n + 1, y2 => (if (nI y2) < (nI U) then (if (f_Model_keeps (W 0) y2 ((W 0) ((9 + (8 * y2)) + 7)) Hh) = (0 : Int32) then .inr ((-1000000 : Int32), gvn) else f_Model_planCost_L73 W gvn U Hh n (y2 + 1)) else .inl y2)
def f_Model_planCost (W : Nat → Nat → Int32) (gvn : Nat → Int32) (U : Nat) (Hh : Nat) : Int32 × (Nat → Int32) := (match f_Model_planCost_L4 W U Hh (Hh + 1) (0 : Int32) 0 gvn with | .inr r => r | .inl (y1, y2, gvnv) => (match f_Model_planCost_L73 W gvnv U Hh (U + 1) 0 with | .inr r => r | .inl (y2) => (y1, gvnv)))
set_option maxRecDepth 20000 in
set_option maxHeartbeats 4000000 in
theorem c_Model_planCost {G : mG} {h : mHp} {b : Nat} {lane : Nat → Int32} {many : Nat → Nat} {items : Nat → Int32} {spare : Nat → Int32} {stat : Int32} {tape : Nat → Int32} {taped : Nat} {fk : Int32} {fp : Int32} {mat : Nat} {mst : Nat} {tok : Int32} {mval : Int32} {W : Nat → Nat → Int32} {past : Nat → Int32} {nac : Nat} {imgs : Nat → Int32} {kept : Nat → Int32} {gvn : Nat → Int32} {costs : Nat → Int32} {lst : Nat → Int32} {sets : Nat → Int32} {bst : Int32} {mlo : Int64} {mal : Int32} {mpr : Nat → Int64} {lak : Nat → Int64} {trc : Nat → Int32} {ntr : Nat} {U : Nat} {Hh : Nat}   (h0 : W 0 0 = nI U) (hU : U ≤ 4) (h1 : W 0 1 = nI Hh) (hH : Hh ≤ 6) : Ret G 4 mX8_planCost [.ref b] (ov h b (modL b lane many items spare stat tape taped fk fp mat mst tok mval W past nac imgs kept gvn costs lst sets bst mlo mal mpr lak trc ntr)) (some (.int (f_Model_planCost W gvn U Hh).1)) (ov h b (modL b lane many items spare stat tape taped fk fp mat mst tok mval W past nac imgs kept (f_Model_planCost W gvn U Hh).2 costs lst sets bst mlo mal mpr lak trc ntr)) := by
  generalize hf : f_Model_planCost W gvn U Hh = R
  unfold f_Model_planCost at hf
  refine Ret.of [(0, .ref b)] (by decide) (Nat.le_of_ble_eq_true rfl) rfl ?_
  rintro Z rfl X Y
  have hv_b : isV (ov h b (modL b lane many items spare stat tape taped fk fp mat mst tok mval W past nac imgs kept gvn costs lst sets bst mlo mal mpr lak trc ntr)) b (modL b lane many items spare stat tape taped fk fp mat mst tok mval W past nac imgs kept gvn costs lst sets bst mlo mal mpr lak trc ntr) := ov_isV
  refine r_iconst X (0 : Int32) dX8_planCost_0 (by decide) ?_
  refine r_istore_n [(0, .ref b), (1, .int (0 : Int32))] X dX8_planCost_1 rfl (by decide) rfl ?_
  refine r_iconst X (0 : Int32) dX8_planCost_2 (by decide) ?_
  refine r_istore_n [(0, .ref b), (1, .int (0 : Int32)), (2, .int (0 : Int32))] X dX8_planCost_3 rfl (by decide) rfl ?_
  have wl2 : ∀ (n_ : Nat) (y1 : Int32) (y2 : Nat) (gvnv : Nat → Int32), (y2 ≤ Hh) → (Hh - y2) < n_ → ∀ Rl, f_Model_planCost_L4 W U Hh n_ y1 y2 gvnv = Rl → (∀ (y1 : Int32) (y2 : Nat) (gvnv : Nat → Int32), Rl = .inl (y1, y2, gvnv) → (y2 ≤ Hh) → SW Z 71 [(0, .ref b), (1, .int y1)] [] (ov h b (modL b lane many items spare stat tape taped fk fp mat mst tok mval W past nac imgs kept gvnv costs lst sets bst mlo mal mpr lak trc ntr))) → (∀ r, Rl = .inr r → R = r) → SW Z 4 [(0, .ref b), (1, .int y1), (2, .int (nI y2))] [] (ov h b (modL b lane many items spare stat tape taped fk fp mat mst tok mval W past nac imgs kept gvnv costs lst sets bst mlo mal mpr lak trc ntr)) := by
    intro n_
    induction n_ with
    | zero => intro y1 y2 gvnv _ hm; exact absurd hm (Nat.not_lt_zero _)
    | succ n_ ih =>
      intro y1 y2 gvnv hi hm Rl hf K Kr
      rw [f_Model_planCost_L4] at hf
      have hv_b : isV (ov h b (modL b lane many items spare stat tape taped fk fp mat mst tok mval W past nac imgs kept gvnv costs lst sets bst mlo mal mpr lak trc ntr)) b (modL b lane many items spare stat tape taped fk fp mat mst tok mval W past nac imgs kept gvnv costs lst sets bst mlo mal mpr lak trc ntr) := ov_isV
      refine r_iload_n X 2 dX8_planCost_4 rfl ?_
      refine r_aload_n X 0 dX8_planCost_5 rfl ?_
      refine gf_X8_25 X dX8_planCost_6 (hv_b 0 _ rfl) rfl ?_
      refine r_iconst X (1 : Int32) dX8_planCost_9 (by decide) ?_
      refine r_ialdv X (v := nI Hh) (k0 := 1) dX8_planCost_10 (hv_b (6 + 0) _ (modL_W (by omega))) (by omega) (by decide) h1 ?_
      refine r_icmp_ge X 71 dX8_planCost_11 rfl (fun ct4 => ?_) (fun ct4 => ?_)
      · rw [if_neg ct4] at hf
        refine SW.pick [0, 1] [(0, .ref b), (1, .int y1)] rfl ?_
        exact K _ _ _ hf.symm hi
      · rw [if_pos ct4] at hf
        have ht4 := nI_ltX ct4 (by omega) (by omega)
        refine r_aload_n X 0 dX8_planCost_14 rfl ?_
        refine gf_X8_25 X dX8_planCost_15 (hv_b 0 _ rfl) rfl ?_
        refine r_iload_n X 2 dX8_planCost_18 rfl ?_
        refine cl_X8_246 X (by decide) dX8_planCost_19 (Nat.le_of_ble_eq_true rfl) (c_Model_onAt (isV1 (hv_b (6 + 0) _ (modL_W (by omega)))) (by first | assumption | omega) (by first | assumption | omega)) ?_
        refine r_istore_n [(0, .ref b), (1, .int y1), (2, .int (nI y2)), (3, .int (f_Model_onAt (W 0) (nI y2) U))] X dX8_planCost_22 rfl (by decide) rfl ?_
        refine r_aload_n X 0 dX8_planCost_23 rfl ?_
        refine gf_X8_25 X dX8_planCost_24 (hv_b 0 _ rfl) rfl ?_
        refine r_iload_n X 2 dX8_planCost_27 rfl ?_
        refine cl_X8_249 X (by decide) dX8_planCost_28 (Nat.le_of_ble_eq_true rfl) (c_Model_startingAt (isV1 (hv_b (6 + 0) _ (modL_W (by omega)))) (by first | assumption | omega) (by first | assumption | omega)) ?_
        refine r_istore [(0, .ref b), (1, .int y1), (2, .int (nI y2)), (3, .int (f_Model_onAt (W 0) (nI y2) U)), (4, .int (f_Model_startingAt (W 0) (nI y2) U))] X dX8_planCost_31 (by decide) rfl ?_
        refine r_aload_n X 0 dX8_planCost_33 rfl ?_
        refine gf_X8_25 X dX8_planCost_34 (hv_b 0 _ rfl) rfl ?_
        refine r_iload_n X 2 dX8_planCost_37 rfl ?_
        refine r_iload_n X 3 dX8_planCost_38 rfl ?_
        refine r_iload X 4 dX8_planCost_39 rfl ?_
        refine cl_X8_186 X (by decide) dX8_planCost_41 (Nat.le_of_ble_eq_true rfl) (c_Model_isMet (isV1 (hv_b (6 + 0) _ (modL_W (by omega)))) (by first | assumption | omega) (by first | assumption | omega) (by first | assumption | omega)) ?_
        refine r_if_ne X 50 dX8_planCost_44 rfl (fun c3 => ?_) (fun c3 => ?_)
        · rw [if_neg c3] at hf
          refine r_iload_n X 1 dX8_planCost_50 rfl ?_
          refine r_aload_n X 0 dX8_planCost_51 rfl ?_
          refine r_aload_n X 0 dX8_planCost_52 rfl ?_
          refine gf_X8_25 X dX8_planCost_53 (hv_b 0 _ rfl) rfl ?_
          refine r_iload_n X 2 dX8_planCost_56 rfl ?_
          refine r_iload_n X 3 dX8_planCost_57 rfl ?_
          refine r_iload X 4 dX8_planCost_58 rfl ?_
          refine cl_X8_190 X (by decide) dX8_planCost_60 (Nat.le_of_ble_eq_true rfl) (hv_b 0 _ rfl) (c_Model_shares  (by first | assumption | omega) (by first | assumption | omega) (by first | assumption | omega) (by first | assumption | omega)) ?_
          obtain ⟨q2, eq2⟩ : ∃ q, q = f_Model_shares W gvnv y2 (f_Model_onAt (W 0) (nI y2) U) (f_Model_startingAt (W 0) (nI y2) U) 0 U := ⟨_, rfl⟩
          rw [← eq2]
          rw [← eq2] at hf
          try dsimp only at hf
          have hv_b : isV (ov h b (modL b lane many items spare stat tape taped fk fp mat mst tok mval W past nac imgs kept q2.2 costs lst sets bst mlo mal mpr lak trc ntr)) b (modL b lane many items spare stat tape taped fk fp mat mst tok mval W past nac imgs kept q2.2 costs lst sets bst mlo mal mpr lak trc ntr) := ov_isV
          refine r_iadd X dX8_planCost_63 ?_
          refine r_istore_n [(0, .ref b), (1, .int (y1 + q2.1)), (2, .int (nI y2)), (3, .int (f_Model_onAt (W 0) (nI y2) U)), (4, .int (f_Model_startingAt (W 0) (nI y2) U))] X dX8_planCost_64 rfl (by decide) rfl ?_
          refine r_iinc [(0, .ref b), (1, .int (y1 + q2.1)), (2, .int (nI (y2 + 1))), (3, .int (f_Model_onAt (W 0) (nI y2) U)), (4, .int (f_Model_startingAt (W 0) (nI y2) U))] X (nI (y2 + 1)) 2 dX8_planCost_65 rfl (nI_succ _).symm (by decide) rfl ?_
          refine r_goto X 4 dX8_planCost_68 rfl ?_
          refine SW.pick [0, 1, 2] [(0, .ref b), (1, .int (y1 + q2.1)), (2, .int (nI (y2 + 1)))] rfl ?_
          exact ih _ _ _ (by omega) (by omega) Rl hf K Kr
        · rw [if_pos c3] at hf
          refine r_ldc X dX8_planCost_47 kk_X8_66 ?_
          have hR := Kr _ hf.symm
          subst hR
          exact r_ireturn X Y dX8_planCost_49 rfl rfl
  refine wl2 (Hh + 1) (0 : Int32) 0 gvn (by first | trivial | assumption | omega) (by omega) _ rfl (fun y1 y2 gvnv hl hi => ?_) (fun r hl => ?_)
  rotate_left
  · rw [hl] at hf; exact hf.symm
  rw [hl] at hf
  try dsimp only at hf
  have hv_b : isV (ov h b (modL b lane many items spare stat tape taped fk fp mat mst tok mval W past nac imgs kept gvnv costs lst sets bst mlo mal mpr lak trc ntr)) b (modL b lane many items spare stat tape taped fk fp mat mst tok mval W past nac imgs kept gvnv costs lst sets bst mlo mal mpr lak trc ntr) := ov_isV
  refine r_iconst X (0 : Int32) dX8_planCost_71 (by decide) ?_
  refine r_istore_n [(0, .ref b), (1, .int y1), (2, .int (0 : Int32))] X dX8_planCost_72 rfl (by decide) rfl ?_
  have wl5 : ∀ (n_ : Nat) (y2 : Nat), (y2 ≤ U) → (U - y2) < n_ → ∀ Rl, f_Model_planCost_L73 W gvnv U Hh n_ y2 = Rl → (∀ (y2 : Nat), Rl = .inl (y2) → (y2 ≤ U) → SW Z 118 [(1, .int y1)] [] (ov h b (modL b lane many items spare stat tape taped fk fp mat mst tok mval W past nac imgs kept gvnv costs lst sets bst mlo mal mpr lak trc ntr))) → (∀ r, Rl = .inr r → R = r) → SW Z 73 [(0, .ref b), (1, .int y1), (2, .int (nI y2))] [] (ov h b (modL b lane many items spare stat tape taped fk fp mat mst tok mval W past nac imgs kept gvnv costs lst sets bst mlo mal mpr lak trc ntr)) := by
    intro n_
    induction n_ with
    | zero => intro y2 _ hm; exact absurd hm (Nat.not_lt_zero _)
    | succ n_ ih =>
      intro y2 hi hm Rl hf K Kr
      rw [f_Model_planCost_L73] at hf
      have hv_b : isV (ov h b (modL b lane many items spare stat tape taped fk fp mat mst tok mval W past nac imgs kept gvnv costs lst sets bst mlo mal mpr lak trc ntr)) b (modL b lane many items spare stat tape taped fk fp mat mst tok mval W past nac imgs kept gvnv costs lst sets bst mlo mal mpr lak trc ntr) := ov_isV
      refine r_iload_n X 2 dX8_planCost_73 rfl ?_
      refine r_aload_n X 0 dX8_planCost_74 rfl ?_
      refine gf_X8_25 X dX8_planCost_75 (hv_b 0 _ rfl) rfl ?_
      refine r_iconst X (0 : Int32) dX8_planCost_78 (by decide) ?_
      refine r_ialdv X (v := nI U) (k0 := 0) dX8_planCost_79 (hv_b (6 + 0) _ (modL_W (by omega))) (by omega) (by decide) h0 ?_
      refine r_icmp_ge X 118 dX8_planCost_80 rfl (fun ct73 => ?_) (fun ct73 => ?_)
      · rw [if_neg ct73] at hf
        refine SW.pick [1] [(1, .int y1)] rfl ?_
        exact K _ hf.symm hi
      · rw [if_pos ct73] at hf
        have ht73 := nI_ltX ct73 (by omega) (by omega)
        refine r_aload_n X 0 dX8_planCost_83 rfl ?_
        refine gf_X8_25 X dX8_planCost_84 (hv_b 0 _ rfl) rfl ?_
        refine r_iload_n X 2 dX8_planCost_87 rfl ?_
        refine r_aload_n X 0 dX8_planCost_88 rfl ?_
        refine gf_X8_25 X dX8_planCost_89 (hv_b 0 _ rfl) rfl ?_
        refine r_bipush X (9 : Int32) dX8_planCost_92 (by decide) ?_
        refine r_bipush X (8 : Int32) dX8_planCost_94 (by decide) ?_
        refine r_iload_n X 2 dX8_planCost_96 rfl ?_
        refine r_imuln X (a := 8) (b := y2) dX8_planCost_97 ?_
        refine r_iaddn X (a := 9) (b := 8 * y2) dX8_planCost_98 ?_
        refine r_bipush X (7 : Int32) dX8_planCost_99 (by decide) ?_
        refine r_iaddn X (a := 9 + (8 * y2)) (b := 7) dX8_planCost_101 ?_
        refine r_ialdn X (k0 := (9 + (8 * y2)) + 7) dX8_planCost_102 (hv_b (6 + 0) _ (modL_W (by omega))) (by omega) (by decide) ?_
        refine cl_X8_242 X (by decide) dX8_planCost_103 (Nat.le_of_ble_eq_true rfl) (c_Model_keeps (isV1 (hv_b (6 + 0) _ (modL_W (by omega)))) (by first | assumption | omega) (by first | assumption | omega) (by first | assumption | omega)) ?_
        refine r_if_ne X 112 dX8_planCost_106 rfl (fun c6 => ?_) (fun c6 => ?_)
        · rw [if_neg c6] at hf
          refine r_iinc [(0, .ref b), (1, .int y1), (2, .int (nI (y2 + 1)))] X (nI (y2 + 1)) 2 dX8_planCost_112 rfl (nI_succ _).symm (by decide) rfl ?_
          refine r_goto X 73 dX8_planCost_115 rfl ?_
          exact ih _ (by omega) (by omega) Rl hf K Kr
        · rw [if_pos c6] at hf
          refine r_ldc X dX8_planCost_109 kk_X8_66 ?_
          have hR := Kr _ hf.symm
          subst hR
          exact r_ireturn X Y dX8_planCost_111 rfl rfl
  refine wl5 (U + 1) 0 (by first | trivial | assumption | omega) (by omega) _ rfl (fun y2 hl hi => ?_) (fun r hl => ?_)
  rotate_left
  · rw [hl] at hf; exact hf.symm
  rw [hl] at hf
  try dsimp only at hf
  have hv_b : isV (ov h b (modL b lane many items spare stat tape taped fk fp mat mst tok mval W past nac imgs kept gvnv costs lst sets bst mlo mal mpr lak trc ntr)) b (modL b lane many items spare stat tape taped fk fp mat mst tok mval W past nac imgs kept gvnv costs lst sets bst mlo mal mpr lak trc ntr) := ov_isV
  refine r_iload_n X 0 dX8_planCost_118 rfl ?_
  try subst hf
  exact r_ireturn X Y dX8_planCost_119 rfl rfl

def f_Model_plan_L55s (W : Nat → Nat → Int32) (U : Nat) (k55 : Nat) (x2 : Int32) : Int32 := x2 ||| (if (f_Model_isMet (W 0) k55 (f_Model_onAt (W 0) (nI k55) U) (f_Model_startingAt (W 0) (nI k55) U) U) = (0 : Int32) then (1 : Int32) <<< ((nI k55) &&& 31) else (0 : Int32))
def f_Model_plan_L55 (W : Nat → Nat → Int32) (U : Nat) (x2 : Int32) : Nat → Int32
  | 0 => x2
  | k55 + 1 => f_Model_plan_L55s W U k55 (f_Model_plan_L55 W U x2 k55)
def f_Model_plan_L112s (W : Nat → Nat → Int32) (Hh : Nat) (k112 : Nat) (x2 : Int32) : Int32 := x2 ||| (if (f_Model_keeps (W 0) k112 ((W 0) ((9 + (8 * k112)) + 7)) Hh) = (0 : Int32) then (1 : Int32) <<< ((nI k112) &&& 31) else (0 : Int32))
def f_Model_plan_L112 (W : Nat → Nat → Int32) (Hh : Nat) (x2 : Int32) : Nat → Int32
  | 0 => x2
  | k112 + 1 => f_Model_plan_L112s W Hh k112 (f_Model_plan_L112 W Hh x2 k112)
def f_Model_plan_L168s (W : Nat → Nat → Int32) (Hh : Nat) (k168 : Nat) (x2 : Int32) : Int32 := x2 + (f_Model_ones (f_Model_startsOf ((W 0) ((9 + (8 * k168)) + 7)) Hh))
def f_Model_plan_L168 (W : Nat → Nat → Int32) (Hh : Nat) (x2 : Int32) : Nat → Int32
  | 0 => x2
  | k168 + 1 => f_Model_plan_L168s W Hh k168 (f_Model_plan_L168 W Hh x2 k168)
def f_Model_plan (W : Nat → Nat → Int32) (gvn : Nat → Int32) (wh : Int32) (U : Nat) (Hh : Nat) : Int32 × (Nat → Int32) := (if (f_Model_isDay W) = (0 : Int32) then ((-1000002 : Int32), gvn) else (if wh = (0 : Int32) then ((fun q1 => (q1.1, q1.2)) (f_Model_planCost W gvn U Hh)) else (if wh = (1 : Int32) then ((f_Model_plan_L55 W U (0 : Int32) Hh), gvn) else (if wh = (2 : Int32) then ((f_Model_plan_L112 W Hh (0 : Int32) U), gvn) else (if wh = (3 : Int32) then ((f_Model_plan_L168 W Hh (0 : Int32) U), gvn) else (if wh = (4 : Int32) then ((W 0) 2, gvn) else ((-1000001 : Int32), gvn)))))))
set_option maxRecDepth 20000 in
set_option maxHeartbeats 4000000 in
theorem c_Model_plan {G : mG} {h : mHp} {b : Nat} {lane : Nat → Int32} {many : Nat → Nat} {items : Nat → Int32} {spare : Nat → Int32} {stat : Int32} {tape : Nat → Int32} {taped : Nat} {fk : Int32} {fp : Int32} {mat : Nat} {mst : Nat} {tok : Int32} {mval : Int32} {W : Nat → Nat → Int32} {past : Nat → Int32} {nac : Nat} {imgs : Nat → Int32} {kept : Nat → Int32} {gvn : Nat → Int32} {costs : Nat → Int32} {lst : Nat → Int32} {sets : Nat → Int32} {bst : Int32} {mlo : Int64} {mal : Int32} {mpr : Nat → Int64} {lak : Nat → Int64} {trc : Nat → Int32} {ntr : Nat} {wh : Int32} {U : Nat} {Hh : Nat}   (h0 : W 0 0 = nI U) (hU : U ≤ 4) (h1 : W 0 1 = nI Hh) (hH : Hh ≤ 6) : Ret G 5 mX8_plan [.ref b, .int wh] (ov h b (modL b lane many items spare stat tape taped fk fp mat mst tok mval W past nac imgs kept gvn costs lst sets bst mlo mal mpr lak trc ntr)) (some (.int (f_Model_plan W gvn wh U Hh).1)) (ov h b (modL b lane many items spare stat tape taped fk fp mat mst tok mval W past nac imgs kept (f_Model_plan W gvn wh U Hh).2 costs lst sets bst mlo mal mpr lak trc ntr)) := by
  generalize hf : f_Model_plan W gvn wh U Hh = R
  unfold f_Model_plan at hf
  refine Ret.of [(0, .ref b), (1, .int wh)] (by decide) (Nat.le_of_ble_eq_true rfl) rfl ?_
  rintro Z rfl X Y
  have hv_b : isV (ov h b (modL b lane many items spare stat tape taped fk fp mat mst tok mval W past nac imgs kept gvn costs lst sets bst mlo mal mpr lak trc ntr)) b (modL b lane many items spare stat tape taped fk fp mat mst tok mval W past nac imgs kept gvn costs lst sets bst mlo mal mpr lak trc ntr) := ov_isV
  refine r_aload_n X 0 dX8_plan_0 rfl ?_
  refine cl_X8_227 X (by decide) dX8_plan_1 (Nat.le_of_ble_eq_true rfl) (hv_b 0 _ rfl) (c_Model_isDay hv_b ) ?_
  refine r_if_ne X 10 dX8_plan_4 rfl (fun c1 => ?_) (fun c1 => ?_)
  · rw [if_neg c1] at hf
    refine r_iconst X (0 : Int32) dX8_plan_10 (by decide) ?_
    refine r_istore_n [(0, .ref b), (1, .int wh), (2, .int (0 : Int32))] X dX8_plan_11 rfl (by decide) rfl ?_
    refine r_iload_n X 1 dX8_plan_12 rfl ?_
    by_cases c2 : wh = (0 : Int32)
    · rw [if_pos c2] at hf
      refine r_tsin X 48 dX8_plan_13 (by rw [c2]; decide) (by rw [c2]; decide) (by rw [c2]; rfl) rfl ?_
      refine r_aload_n X 0 dX8_plan_48 rfl ?_
      refine cl_X8_252 X (by decide) dX8_plan_49 (Nat.le_of_ble_eq_true rfl) (hv_b 0 _ rfl) (c_Model_planCost  (by first | assumption | omega) (by first | assumption | omega) (by first | assumption | omega) (by first | assumption | omega)) ?_
      obtain ⟨q1, eq1⟩ : ∃ q, q = f_Model_planCost W gvn U Hh := ⟨_, rfl⟩
      rw [← eq1]
      rw [← eq1] at hf
      try dsimp only at hf
      have hv_b : isV (ov h b (modL b lane many items spare stat tape taped fk fp mat mst tok mval W past nac imgs kept q1.2 costs lst sets bst mlo mal mpr lak trc ntr)) b (modL b lane many items spare stat tape taped fk fp mat mst tok mval W past nac imgs kept q1.2 costs lst sets bst mlo mal mpr lak trc ntr) := ov_isV
      try subst hf
      exact r_ireturn X Y dX8_plan_52 rfl rfl
    · rw [if_neg c2] at hf
      by_cases c3 : wh = (1 : Int32)
      · rw [if_pos c3] at hf
        refine r_tsin X 53 dX8_plan_13 (by rw [c3]; decide) (by rw [c3]; decide) (by rw [c3]; rfl) rfl ?_
        refine r_iconst X (0 : Int32) dX8_plan_53 (by decide) ?_
        refine r_istore_n [(0, .ref b), (1, .int wh), (2, .int (0 : Int32)), (3, .int (0 : Int32))] X dX8_plan_54 rfl (by decide) rfl ?_
        refine SW.pick [0, 2, 3] [(0, .ref b), (2, .int (0 : Int32)), (3, .int (0 : Int32))] rfl ?_
        refine loop_up (P := fun k5 => SW Z 55 [(0, .ref b), (2, .int (f_Model_plan_L55 W U (0 : Int32) k5)), (3, .int (nI k5))] [] (ov h b (modL b lane many items spare stat tape taped fk fp mat mst tok mval W past nac imgs kept gvn costs lst sets bst mlo mal mpr lak trc ntr))) Hh ?_ ?_ 0 (Nat.zero_le _)
        rotate_left
        · intro k5 hk5 ih
          have hv_b : isV (ov h b (modL b lane many items spare stat tape taped fk fp mat mst tok mval W past nac imgs kept gvn costs lst sets bst mlo mal mpr lak trc ntr)) b (modL b lane many items spare stat tape taped fk fp mat mst tok mval W past nac imgs kept gvn costs lst sets bst mlo mal mpr lak trc ntr) := ov_isV
          refine r_iload_n X 2 dX8_plan_55 rfl ?_
          refine r_aload_n X 0 dX8_plan_56 rfl ?_
          refine gf_X8_25 X dX8_plan_57 (hv_b 0 _ rfl) rfl ?_
          refine r_iconst X (1 : Int32) dX8_plan_60 (by decide) ?_
          refine r_ialdv X (v := nI Hh) (k0 := 1) dX8_plan_61 (hv_b (6 + 0) _ (modL_W (by omega))) (by omega) (by decide) h1 ?_
          refine r_icmp_ge X 108 dX8_plan_62 rfl (fun z => absurd (nI_lt (a := k5) (b := Hh) (by omega) (by omega)) z) (fun _ => ?_)
          refine r_iload_n X 1 dX8_plan_65 rfl ?_
          refine r_aload_n X 0 dX8_plan_66 rfl ?_
          refine gf_X8_25 X dX8_plan_67 (hv_b 0 _ rfl) rfl ?_
          refine r_iload_n X 2 dX8_plan_70 rfl ?_
          refine r_aload_n X 0 dX8_plan_71 rfl ?_
          refine gf_X8_25 X dX8_plan_72 (hv_b 0 _ rfl) rfl ?_
          refine r_iload_n X 2 dX8_plan_75 rfl ?_
          refine cl_X8_246 X (by decide) dX8_plan_76 (Nat.le_of_ble_eq_true rfl) (c_Model_onAt (isV1 (hv_b (6 + 0) _ (modL_W (by omega)))) (by first | assumption | omega) (by first | assumption | omega)) ?_
          refine r_aload_n X 0 dX8_plan_79 rfl ?_
          refine gf_X8_25 X dX8_plan_80 (hv_b 0 _ rfl) rfl ?_
          refine r_iload_n X 2 dX8_plan_83 rfl ?_
          refine cl_X8_249 X (by decide) dX8_plan_84 (Nat.le_of_ble_eq_true rfl) (c_Model_startingAt (isV1 (hv_b (6 + 0) _ (modL_W (by omega)))) (by first | assumption | omega) (by first | assumption | omega)) ?_
          refine cl_X8_186 X (by decide) dX8_plan_87 (Nat.le_of_ble_eq_true rfl) (c_Model_isMet (isV1 (hv_b (6 + 0) _ (modL_W (by omega)))) (by first | assumption | omega) (by first | assumption | omega) (by first | assumption | omega)) ?_
          refine m_join (P := SW Z 100 [(0, .ref b), (3, .int (nI k5))] [.int (if (f_Model_isMet (W 0) k5 (f_Model_onAt (W 0) (nI k5) U) (f_Model_startingAt (W 0) (nI k5) U) U) = (0 : Int32) then (1 : Int32) <<< ((nI k5) &&& 31) else (0 : Int32)), .int (f_Model_plan_L55 W U (0 : Int32) k5)] (ov h b (modL b lane many items spare stat tape taped fk fp mat mst tok mval W past nac imgs kept gvn costs lst sets bst mlo mal mpr lak trc ntr))) (fun K => ?_) ?_
          · refine r_if_eq X 97 dX8_plan_90 rfl (fun c6 => ?_) (fun c6 => ?_)
            · skip
              refine r_iconst X (1 : Int32) dX8_plan_97 (by decide) ?_
              refine r_iload_n X 2 dX8_plan_98 rfl ?_
              refine r_ishl X dX8_plan_99 ?_
              refine SW.pick [0, 2] [(0, .ref b), (3, .int (nI k5))] rfl ?_
              try simp only [if_pos c6] at K ⊢
              exact K
            · skip
              refine r_iconst X (0 : Int32) dX8_plan_93 (by decide) ?_
              refine r_goto X 100 dX8_plan_94 rfl ?_
              refine SW.pick [0, 2] [(0, .ref b), (3, .int (nI k5))] rfl ?_
              try simp only [if_neg c6] at K ⊢
              exact K
          have hv_b : isV (ov h b (modL b lane many items spare stat tape taped fk fp mat mst tok mval W past nac imgs kept gvn costs lst sets bst mlo mal mpr lak trc ntr)) b (modL b lane many items spare stat tape taped fk fp mat mst tok mval W past nac imgs kept gvn costs lst sets bst mlo mal mpr lak trc ntr) := ov_isV
          refine r_ior X dX8_plan_100 ?_
          refine r_istore_n [(0, .ref b), (2, .int ((f_Model_plan_L55 W U (0 : Int32) k5) ||| (if (f_Model_isMet (W 0) k5 (f_Model_onAt (W 0) (nI k5) U) (f_Model_startingAt (W 0) (nI k5) U) U) = (0 : Int32) then (1 : Int32) <<< ((nI k5) &&& 31) else (0 : Int32)))), (3, .int (nI k5))] X dX8_plan_101 rfl (by decide) rfl ?_
          refine r_iinc [(0, .ref b), (2, .int ((f_Model_plan_L55 W U (0 : Int32) k5) ||| (if (f_Model_isMet (W 0) k5 (f_Model_onAt (W 0) (nI k5) U) (f_Model_startingAt (W 0) (nI k5) U) U) = (0 : Int32) then (1 : Int32) <<< ((nI k5) &&& 31) else (0 : Int32)))), (3, .int (nI (k5 + 1)))] X (nI (k5 + 1)) 2 dX8_plan_102 rfl (nI_succ _).symm (by decide) rfl ?_
          refine r_goto X 55 dX8_plan_105 rfl ?_
          exact ih
        have hv_b : isV (ov h b (modL b lane many items spare stat tape taped fk fp mat mst tok mval W past nac imgs kept gvn costs lst sets bst mlo mal mpr lak trc ntr)) b (modL b lane many items spare stat tape taped fk fp mat mst tok mval W past nac imgs kept gvn costs lst sets bst mlo mal mpr lak trc ntr) := ov_isV
        refine r_iload_n X 2 dX8_plan_55 rfl ?_
        refine r_aload_n X 0 dX8_plan_56 rfl ?_
        refine gf_X8_25 X dX8_plan_57 (hv_b 0 _ rfl) rfl ?_
        refine r_iconst X (1 : Int32) dX8_plan_60 (by decide) ?_
        refine r_ialdv X (v := nI Hh) (k0 := 1) dX8_plan_61 (hv_b (6 + 0) _ (modL_W (by omega))) (by omega) (by decide) h1 ?_
        refine r_icmp_ge X 108 dX8_plan_62 rfl (fun _ => ?_) (fun z => absurd z (nI_nlt (a := Hh) (b := Hh) (by omega) (by omega)))
        refine r_iload_n X 1 dX8_plan_108 rfl ?_
        try subst hf
        exact r_ireturn X Y dX8_plan_109 rfl rfl
      · rw [if_neg c3] at hf
        by_cases c7 : wh = (2 : Int32)
        · rw [if_pos c7] at hf
          refine r_tsin X 110 dX8_plan_13 (by rw [c7]; decide) (by rw [c7]; decide) (by rw [c7]; rfl) rfl ?_
          refine r_iconst X (0 : Int32) dX8_plan_110 (by decide) ?_
          refine r_istore_n [(0, .ref b), (1, .int wh), (2, .int (0 : Int32)), (3, .int (0 : Int32))] X dX8_plan_111 rfl (by decide) rfl ?_
          refine SW.pick [0, 2, 3] [(0, .ref b), (2, .int (0 : Int32)), (3, .int (0 : Int32))] rfl ?_
          refine loop_up (P := fun k9 => SW Z 112 [(0, .ref b), (2, .int (f_Model_plan_L112 W Hh (0 : Int32) k9)), (3, .int (nI k9))] [] (ov h b (modL b lane many items spare stat tape taped fk fp mat mst tok mval W past nac imgs kept gvn costs lst sets bst mlo mal mpr lak trc ntr))) U ?_ ?_ 0 (Nat.zero_le _)
          rotate_left
          · intro k9 hk9 ih
            have hv_b : isV (ov h b (modL b lane many items spare stat tape taped fk fp mat mst tok mval W past nac imgs kept gvn costs lst sets bst mlo mal mpr lak trc ntr)) b (modL b lane many items spare stat tape taped fk fp mat mst tok mval W past nac imgs kept gvn costs lst sets bst mlo mal mpr lak trc ntr) := ov_isV
            refine r_iload_n X 2 dX8_plan_112 rfl ?_
            refine r_aload_n X 0 dX8_plan_113 rfl ?_
            refine gf_X8_25 X dX8_plan_114 (hv_b 0 _ rfl) rfl ?_
            refine r_iconst X (0 : Int32) dX8_plan_117 (by decide) ?_
            refine r_ialdv X (v := nI U) (k0 := 0) dX8_plan_118 (hv_b (6 + 0) _ (modL_W (by omega))) (by omega) (by decide) h0 ?_
            refine r_icmp_ge X 164 dX8_plan_119 rfl (fun z => absurd (nI_lt (a := k9) (b := U) (by omega) (by omega)) z) (fun _ => ?_)
            refine r_iload_n X 1 dX8_plan_122 rfl ?_
            refine r_aload_n X 0 dX8_plan_123 rfl ?_
            refine gf_X8_25 X dX8_plan_124 (hv_b 0 _ rfl) rfl ?_
            refine r_iload_n X 2 dX8_plan_127 rfl ?_
            refine r_aload_n X 0 dX8_plan_128 rfl ?_
            refine gf_X8_25 X dX8_plan_129 (hv_b 0 _ rfl) rfl ?_
            refine r_bipush X (9 : Int32) dX8_plan_132 (by decide) ?_
            refine r_bipush X (8 : Int32) dX8_plan_134 (by decide) ?_
            refine r_iload_n X 2 dX8_plan_136 rfl ?_
            refine r_imuln X (a := 8) (b := k9) dX8_plan_137 ?_
            refine r_iaddn X (a := 9) (b := 8 * k9) dX8_plan_138 ?_
            refine r_bipush X (7 : Int32) dX8_plan_139 (by decide) ?_
            refine r_iaddn X (a := 9 + (8 * k9)) (b := 7) dX8_plan_141 ?_
            refine r_ialdn X (k0 := (9 + (8 * k9)) + 7) dX8_plan_142 (hv_b (6 + 0) _ (modL_W (by omega))) (by omega) (by decide) ?_
            refine cl_X8_242 X (by decide) dX8_plan_143 (Nat.le_of_ble_eq_true rfl) (c_Model_keeps (isV1 (hv_b (6 + 0) _ (modL_W (by omega)))) (by first | assumption | omega) (by first | assumption | omega) (by first | assumption | omega)) ?_
            refine m_join (P := SW Z 156 [(0, .ref b), (3, .int (nI k9))] [.int (if (f_Model_keeps (W 0) k9 ((W 0) ((9 + (8 * k9)) + 7)) Hh) = (0 : Int32) then (1 : Int32) <<< ((nI k9) &&& 31) else (0 : Int32)), .int (f_Model_plan_L112 W Hh (0 : Int32) k9)] (ov h b (modL b lane many items spare stat tape taped fk fp mat mst tok mval W past nac imgs kept gvn costs lst sets bst mlo mal mpr lak trc ntr))) (fun K => ?_) ?_
            · refine r_if_eq X 153 dX8_plan_146 rfl (fun c10 => ?_) (fun c10 => ?_)
              · skip
                refine r_iconst X (1 : Int32) dX8_plan_153 (by decide) ?_
                refine r_iload_n X 2 dX8_plan_154 rfl ?_
                refine r_ishl X dX8_plan_155 ?_
                refine SW.pick [0, 2] [(0, .ref b), (3, .int (nI k9))] rfl ?_
                try simp only [if_pos c10] at K ⊢
                exact K
              · skip
                refine r_iconst X (0 : Int32) dX8_plan_149 (by decide) ?_
                refine r_goto X 156 dX8_plan_150 rfl ?_
                refine SW.pick [0, 2] [(0, .ref b), (3, .int (nI k9))] rfl ?_
                try simp only [if_neg c10] at K ⊢
                exact K
            have hv_b : isV (ov h b (modL b lane many items spare stat tape taped fk fp mat mst tok mval W past nac imgs kept gvn costs lst sets bst mlo mal mpr lak trc ntr)) b (modL b lane many items spare stat tape taped fk fp mat mst tok mval W past nac imgs kept gvn costs lst sets bst mlo mal mpr lak trc ntr) := ov_isV
            refine r_ior X dX8_plan_156 ?_
            refine r_istore_n [(0, .ref b), (2, .int ((f_Model_plan_L112 W Hh (0 : Int32) k9) ||| (if (f_Model_keeps (W 0) k9 ((W 0) ((9 + (8 * k9)) + 7)) Hh) = (0 : Int32) then (1 : Int32) <<< ((nI k9) &&& 31) else (0 : Int32)))), (3, .int (nI k9))] X dX8_plan_157 rfl (by decide) rfl ?_
            refine r_iinc [(0, .ref b), (2, .int ((f_Model_plan_L112 W Hh (0 : Int32) k9) ||| (if (f_Model_keeps (W 0) k9 ((W 0) ((9 + (8 * k9)) + 7)) Hh) = (0 : Int32) then (1 : Int32) <<< ((nI k9) &&& 31) else (0 : Int32)))), (3, .int (nI (k9 + 1)))] X (nI (k9 + 1)) 2 dX8_plan_158 rfl (nI_succ _).symm (by decide) rfl ?_
            refine r_goto X 112 dX8_plan_161 rfl ?_
            exact ih
          have hv_b : isV (ov h b (modL b lane many items spare stat tape taped fk fp mat mst tok mval W past nac imgs kept gvn costs lst sets bst mlo mal mpr lak trc ntr)) b (modL b lane many items spare stat tape taped fk fp mat mst tok mval W past nac imgs kept gvn costs lst sets bst mlo mal mpr lak trc ntr) := ov_isV
          refine r_iload_n X 2 dX8_plan_112 rfl ?_
          refine r_aload_n X 0 dX8_plan_113 rfl ?_
          refine gf_X8_25 X dX8_plan_114 (hv_b 0 _ rfl) rfl ?_
          refine r_iconst X (0 : Int32) dX8_plan_117 (by decide) ?_
          refine r_ialdv X (v := nI U) (k0 := 0) dX8_plan_118 (hv_b (6 + 0) _ (modL_W (by omega))) (by omega) (by decide) h0 ?_
          refine r_icmp_ge X 164 dX8_plan_119 rfl (fun _ => ?_) (fun z => absurd z (nI_nlt (a := U) (b := U) (by omega) (by omega)))
          refine r_iload_n X 1 dX8_plan_164 rfl ?_
          try subst hf
          exact r_ireturn X Y dX8_plan_165 rfl rfl
        · rw [if_neg c7] at hf
          by_cases c11 : wh = (3 : Int32)
          · rw [if_pos c11] at hf
            refine r_tsin X 166 dX8_plan_13 (by rw [c11]; decide) (by rw [c11]; decide) (by rw [c11]; rfl) rfl ?_
            refine r_iconst X (0 : Int32) dX8_plan_166 (by decide) ?_
            refine r_istore_n [(0, .ref b), (1, .int wh), (2, .int (0 : Int32)), (3, .int (0 : Int32))] X dX8_plan_167 rfl (by decide) rfl ?_
            refine SW.pick [0, 2, 3] [(0, .ref b), (2, .int (0 : Int32)), (3, .int (0 : Int32))] rfl ?_
            refine loop_up (P := fun k12 => SW Z 168 [(0, .ref b), (2, .int (f_Model_plan_L168 W Hh (0 : Int32) k12)), (3, .int (nI k12))] [] (ov h b (modL b lane many items spare stat tape taped fk fp mat mst tok mval W past nac imgs kept gvn costs lst sets bst mlo mal mpr lak trc ntr))) U ?_ ?_ 0 (Nat.zero_le _)
            rotate_left
            · intro k12 hk12 ih
              have hv_b : isV (ov h b (modL b lane many items spare stat tape taped fk fp mat mst tok mval W past nac imgs kept gvn costs lst sets bst mlo mal mpr lak trc ntr)) b (modL b lane many items spare stat tape taped fk fp mat mst tok mval W past nac imgs kept gvn costs lst sets bst mlo mal mpr lak trc ntr) := ov_isV
              refine r_iload_n X 2 dX8_plan_168 rfl ?_
              refine r_aload_n X 0 dX8_plan_169 rfl ?_
              refine gf_X8_25 X dX8_plan_170 (hv_b 0 _ rfl) rfl ?_
              refine r_iconst X (0 : Int32) dX8_plan_173 (by decide) ?_
              refine r_ialdv X (v := nI U) (k0 := 0) dX8_plan_174 (hv_b (6 + 0) _ (modL_W (by omega))) (by omega) (by decide) h0 ?_
              refine r_icmp_ge X 212 dX8_plan_175 rfl (fun z => absurd (nI_lt (a := k12) (b := U) (by omega) (by omega)) z) (fun _ => ?_)
              refine r_iload_n X 1 dX8_plan_178 rfl ?_
              refine r_aload_n X 0 dX8_plan_179 rfl ?_
              refine gf_X8_25 X dX8_plan_180 (hv_b 0 _ rfl) rfl ?_
              refine r_aload_n X 0 dX8_plan_183 rfl ?_
              refine gf_X8_25 X dX8_plan_184 (hv_b 0 _ rfl) rfl ?_
              refine r_bipush X (9 : Int32) dX8_plan_187 (by decide) ?_
              refine r_bipush X (8 : Int32) dX8_plan_189 (by decide) ?_
              refine r_iload_n X 2 dX8_plan_191 rfl ?_
              refine r_imuln X (a := 8) (b := k12) dX8_plan_192 ?_
              refine r_iaddn X (a := 9) (b := 8 * k12) dX8_plan_193 ?_
              refine r_bipush X (7 : Int32) dX8_plan_194 (by decide) ?_
              refine r_iaddn X (a := 9 + (8 * k12)) (b := 7) dX8_plan_196 ?_
              refine r_ialdn X (k0 := (9 + (8 * k12)) + 7) dX8_plan_197 (hv_b (6 + 0) _ (modL_W (by omega))) (by omega) (by decide) ?_
              refine cl_X8_239 X (by decide) dX8_plan_198 (Nat.le_of_ble_eq_true rfl) (c_Model_startsOf (isV1 (hv_b (6 + 0) _ (modL_W (by omega)))) (by first | assumption | omega) (by first | assumption | omega)) ?_
              refine cl_X8_256 X (by decide) dX8_plan_201 (Nat.le_of_ble_eq_true rfl) (c_Model_ones  ) ?_
              refine r_iadd X dX8_plan_204 ?_
              refine r_istore_n [(0, .ref b), (2, .int ((f_Model_plan_L168 W Hh (0 : Int32) k12) + (f_Model_ones (f_Model_startsOf ((W 0) ((9 + (8 * k12)) + 7)) Hh)))), (3, .int (nI k12))] X dX8_plan_205 rfl (by decide) rfl ?_
              refine r_iinc [(0, .ref b), (2, .int ((f_Model_plan_L168 W Hh (0 : Int32) k12) + (f_Model_ones (f_Model_startsOf ((W 0) ((9 + (8 * k12)) + 7)) Hh)))), (3, .int (nI (k12 + 1)))] X (nI (k12 + 1)) 2 dX8_plan_206 rfl (nI_succ _).symm (by decide) rfl ?_
              refine r_goto X 168 dX8_plan_209 rfl ?_
              exact ih
            have hv_b : isV (ov h b (modL b lane many items spare stat tape taped fk fp mat mst tok mval W past nac imgs kept gvn costs lst sets bst mlo mal mpr lak trc ntr)) b (modL b lane many items spare stat tape taped fk fp mat mst tok mval W past nac imgs kept gvn costs lst sets bst mlo mal mpr lak trc ntr) := ov_isV
            refine r_iload_n X 2 dX8_plan_168 rfl ?_
            refine r_aload_n X 0 dX8_plan_169 rfl ?_
            refine gf_X8_25 X dX8_plan_170 (hv_b 0 _ rfl) rfl ?_
            refine r_iconst X (0 : Int32) dX8_plan_173 (by decide) ?_
            refine r_ialdv X (v := nI U) (k0 := 0) dX8_plan_174 (hv_b (6 + 0) _ (modL_W (by omega))) (by omega) (by decide) h0 ?_
            refine r_icmp_ge X 212 dX8_plan_175 rfl (fun _ => ?_) (fun z => absurd z (nI_nlt (a := U) (b := U) (by omega) (by omega)))
            refine r_iload_n X 1 dX8_plan_212 rfl ?_
            try subst hf
            exact r_ireturn X Y dX8_plan_213 rfl rfl
          · rw [if_neg c11] at hf
            by_cases c13 : wh = (4 : Int32)
            · rw [if_pos c13] at hf
              refine r_tsin X 214 dX8_plan_13 (by rw [c13]; decide) (by rw [c13]; decide) (by rw [c13]; rfl) rfl ?_
              refine r_aload_n X 0 dX8_plan_214 rfl ?_
              refine gf_X8_25 X dX8_plan_215 (hv_b 0 _ rfl) rfl ?_
              refine r_iconst X (2 : Int32) dX8_plan_218 (by decide) ?_
              refine r_ialdn X (k0 := 2) dX8_plan_219 (hv_b (6 + 0) _ (modL_W (by omega))) (by omega) (by decide) ?_
              try subst hf
              exact r_ireturn X Y dX8_plan_220 rfl rfl
            · rw [if_neg c13] at hf
              refine r_tsout X 221 dX8_plan_13 (by have a0 : ¬ wh.toInt = 0 := i32_ne c2; have a1 : ¬ wh.toInt = 1 := i32_ne c3; have a2 : ¬ wh.toInt = 2 := i32_ne c7; have a3 : ¬ wh.toInt = 3 := i32_ne c11; have a4 : ¬ wh.toInt = 4 := i32_ne c13; omega) rfl ?_
              refine r_ldc X dX8_plan_221 kk_X8_80 ?_
              try subst hf
              exact r_ireturn X Y dX8_plan_223 rfl rfl
  · rw [if_pos c1] at hf
    refine r_ldc X dX8_plan_7 kk_X8_223 ?_
    try subst hf
    exact r_ireturn X Y dX8_plan_9 rfl rfl

def f_Model_bound_L61s (items : Nat → Int32) (n1 : Nat) (n2 : Nat) (k61 : Nat) (mpr : Nat → Int64) : (Nat → Int64) := vp_updL mpr k61 ((items (((40 * n1) + n2) + k61)).toInt64)
def f_Model_bound_L61 (items : Nat → Int32) (n1 : Nat) (n2 : Nat) (mpr : Nat → Int64) : Nat → (Nat → Int64)
  | 0 => mpr
  | k61 + 1 => f_Model_bound_L61s items n1 n2 k61 (f_Model_bound_L61 items n1 n2 mpr k61)
def f_Model_bound (lane : Nat → Int32) (many : Nat → Nat) (items : Nat → Int32) (stat : Int32) (W : Nat → Nat → Int32) (mlo : Int64) (mal : Int32) (mpr : Nat → Int64) (row : Int32) (i : Int32) (U : Nat) (Hh : Nat) : Int64 × Int32 × Int64 × Int32 × (Nat → Int64) := (if (f_Model_isDay W) = (0 : Int32) then ((-1000002 : Int64), stat, mlo, mal, mpr) else (if (f_Model_isRow row) = (0 : Int32) then ((-1000001 : Int64), stat, mlo, mal, mpr) else (if (f_Model_isMissing lane (row.toNatClampNeg)) = (0 : Int32) then (if (f_Model_isPart many (row.toNatClampNeg) i (nI Hh)) = (0 : Int32) then ((fun q2 => (q2.1.toInt64, q2.2, mlo, mal, mpr)) (f_Model_found (2 : Int32))) else ((fun q1 => (q1.1, (0 : Int32), q1.2.1, q1.2.2, (f_Model_bound_L61 items (row.toNatClampNeg) (i.toNatClampNeg) mpr Hh))) (f_Model_boundOf W mlo mal (f_Model_bound_L61 items (row.toNatClampNeg) (i.toNatClampNeg) mpr Hh) 0 U Hh))) else ((fun q3 => (q3.1.toInt64, q3.2, mlo, mal, mpr)) (f_Model_found (1 : Int32))))))
set_option maxRecDepth 20000 in
set_option maxHeartbeats 4000000 in
theorem c_Model_bound {G : mG} {h : mHp} {b : Nat} {lane : Nat → Int32} {many : Nat → Nat} {items : Nat → Int32} {spare : Nat → Int32} {stat : Int32} {tape : Nat → Int32} {taped : Nat} {fk : Int32} {fp : Int32} {mat : Nat} {mst : Nat} {tok : Int32} {mval : Int32} {W : Nat → Nat → Int32} {past : Nat → Int32} {nac : Nat} {imgs : Nat → Int32} {kept : Nat → Int32} {gvn : Nat → Int32} {costs : Nat → Int32} {lst : Nat → Int32} {sets : Nat → Int32} {bst : Int32} {mlo : Int64} {mal : Int32} {mpr : Nat → Int64} {lak : Nat → Int64} {trc : Nat → Int32} {ntr : Nat} {row : Int32} {i : Int32} {U : Nat} {Hh : Nat}   (h0 : W 0 0 = nI U) (hU : U ≤ 4) (h1 : W 0 1 = nI Hh) (hH : Hh ≤ 6) (hm : ∀ j, j < 8 → many j ≤ 40) : Ret G 5 mX8_bound [.ref b, .int row, .int i] (ov h b (modL b lane many items spare stat tape taped fk fp mat mst tok mval W past nac imgs kept gvn costs lst sets bst mlo mal mpr lak trc ntr)) (some (.long (f_Model_bound lane many items stat W mlo mal mpr row i U Hh).1)) (ov h b (modL b lane many items spare (f_Model_bound lane many items stat W mlo mal mpr row i U Hh).2.1 tape taped fk fp mat mst tok mval W past nac imgs kept gvn costs lst sets bst (f_Model_bound lane many items stat W mlo mal mpr row i U Hh).2.2.1 (f_Model_bound lane many items stat W mlo mal mpr row i U Hh).2.2.2.1 (f_Model_bound lane many items stat W mlo mal mpr row i U Hh).2.2.2.2 lak trc ntr)) := by
  generalize hf : f_Model_bound lane many items stat W mlo mal mpr row i U Hh = R
  unfold f_Model_bound at hf
  refine Ret.of [(0, .ref b), (1, .int row), (2, .int i)] (by decide) (Nat.le_of_ble_eq_true rfl) rfl ?_
  rintro Z rfl X Y
  have hv_b : isV (ov h b (modL b lane many items spare stat tape taped fk fp mat mst tok mval W past nac imgs kept gvn costs lst sets bst mlo mal mpr lak trc ntr)) b (modL b lane many items spare stat tape taped fk fp mat mst tok mval W past nac imgs kept gvn costs lst sets bst mlo mal mpr lak trc ntr) := ov_isV
  refine r_aload_n X 0 dX8_bound_0 rfl ?_
  refine cl_X8_227 X (by decide) dX8_bound_1 (Nat.le_of_ble_eq_true rfl) (hv_b 0 _ rfl) (c_Model_isDay hv_b ) ?_
  refine r_if_ne X 11 dX8_bound_4 rfl (fun c1 => ?_) (fun c1 => ?_)
  · rw [if_neg c1] at hf
    refine r_iload_n X 1 dX8_bound_11 rfl ?_
    refine cl_X8_76 X (by decide) dX8_bound_12 (Nat.le_of_ble_eq_true rfl) (c_Model_isRow  ) ?_
    refine r_if_ne X 22 dX8_bound_15 rfl (fun cr => ?_) (fun cr => ?_)
    · rw [if_neg cr] at hf
      obtain ⟨r, hr, rfl⟩ := isRow_nat cr
      try simp only [nI_clamp (show r < 2 ^ 31 by omega)] at hf
      refine r_aload_n X 0 dX8_bound_22 rfl ?_
      refine r_iload_n X 1 dX8_bound_23 rfl ?_
      refine cl_X8_88 X (by decide) dX8_bound_24 (Nat.le_of_ble_eq_true rfl) (hv_b 0 _ rfl) (c_Model_isMissing hv_b (by first | assumption | omega)) ?_
      refine r_if_eq X 37 dX8_bound_27 rfl (fun c2 => ?_) (fun c2 => ?_)
      · rw [if_pos c2] at hf
        refine r_aload_n X 0 dX8_bound_37 rfl ?_
        refine r_iload_n X 1 dX8_bound_38 rfl ?_
        refine r_iload_n X 2 dX8_bound_39 rfl ?_
        refine r_aload_n X 0 dX8_bound_40 rfl ?_
        refine gf_X8_25 X dX8_bound_41 (hv_b 0 _ rfl) rfl ?_
        refine r_iconst X (1 : Int32) dX8_bound_44 (by decide) ?_
        refine r_ialdv X (v := nI Hh) (k0 := 1) dX8_bound_45 (hv_b (6 + 0) _ (modL_W (by omega))) (by omega) (by decide) h1 ?_
        refine cl_X8_95 X (by decide) dX8_bound_46 (Nat.le_of_ble_eq_true rfl) (hv_b 0 _ rfl) (c_Model_isPart hv_b (by first | assumption | omega)) ?_
        refine r_if_ne X 59 dX8_bound_49 rfl (fun cp => ?_) (fun cp => ?_)
        · rw [if_neg cp] at hf
          obtain ⟨j, hj, rfl⟩ := isPart_nat (hm _ hr) (by omega) cp
          have hmr := hm _ hr
          try simp only [nI_clamp (show j < 2 ^ 31 by omega)] at hf
          refine r_iconst X (0 : Int32) dX8_bound_59 (by decide) ?_
          refine r_istore_n [(0, .ref b), (1, .int (nI r)), (2, .int (nI j)), (3, .int (0 : Int32))] X dX8_bound_60 rfl (by decide) rfl ?_
          refine loop_up (P := fun k3 => SW Z 61 [(0, .ref b), (1, .int (nI r)), (2, .int (nI j)), (3, .int (nI k3))] [] (ov h b (modL b lane many items spare stat tape taped fk fp mat mst tok mval W past nac imgs kept gvn costs lst sets bst mlo mal (f_Model_bound_L61 items r j mpr k3) lak trc ntr))) Hh ?_ ?_ 0 (Nat.zero_le _)
          rotate_left
          · intro k3 hk3 ih
            have hv_b : isV (ov h b (modL b lane many items spare stat tape taped fk fp mat mst tok mval W past nac imgs kept gvn costs lst sets bst mlo mal (f_Model_bound_L61 items r j mpr k3) lak trc ntr)) b (modL b lane many items spare stat tape taped fk fp mat mst tok mval W past nac imgs kept gvn costs lst sets bst mlo mal (f_Model_bound_L61 items r j mpr k3) lak trc ntr) := ov_isV
            refine r_iload_n X 3 dX8_bound_61 rfl ?_
            refine r_aload_n X 0 dX8_bound_62 rfl ?_
            refine gf_X8_25 X dX8_bound_63 (hv_b 0 _ rfl) rfl ?_
            refine r_iconst X (1 : Int32) dX8_bound_66 (by decide) ?_
            refine r_ialdv X (v := nI Hh) (k0 := 1) dX8_bound_67 (hv_b (6 + 0) _ (modL_W (by omega))) (by omega) (by decide) h1 ?_
            refine r_icmp_ge X 97 dX8_bound_68 rfl (fun z => absurd (nI_lt (a := k3) (b := Hh) (by omega) (by omega)) z) (fun _ => ?_)
            refine r_aload_n X 0 dX8_bound_71 rfl ?_
            refine gf_X8_56 X dX8_bound_72 (hv_b 0 _ rfl) rfl ?_
            refine r_iload_n X 3 dX8_bound_75 rfl ?_
            refine r_aload_n X 0 dX8_bound_76 rfl ?_
            refine gf_X8_16 X dX8_bound_77 (hv_b 0 _ rfl) rfl ?_
            refine r_bipush X (40 : Int32) dX8_bound_80 (by decide) ?_
            refine r_iload_n X 1 dX8_bound_82 rfl ?_
            refine r_imuln X (a := 40) (b := r) dX8_bound_83 ?_
            refine r_iload_n X 2 dX8_bound_84 rfl ?_
            refine r_iaddn X (a := 40 * r) (b := j) dX8_bound_85 ?_
            refine r_iload_n X 3 dX8_bound_86 rfl ?_
            refine r_iaddn X (a := (40 * r) + j) (b := k3) dX8_bound_87 ?_
            refine r_ialdn X (k0 := ((40 * r) + j) + k3) dX8_bound_88 (hv_b 3 _ rfl) (by omega) (by decide) ?_
            refine r_i2l X dX8_bound_89 ?_
            refine r_lastn X (k0 := k3) dX8_bound_90 (hv_b 16 _ rfl) (by omega) (by first | decide | omega) ?_
            refine SW.heq (h2 := (ov h b (modL b lane many items spare stat tape taped fk fp mat mst tok mval W past nac imgs kept gvn costs lst sets bst mlo mal (vp_updL (f_Model_bound_L61 items r j mpr k3) k3 ((items (((40 * r) + j) + k3)).toInt64)) lak trc ntr))) (ov_up 16 (Nat.le_of_ble_eq_true rfl) rfl) ?_
            have hv_b : isV (ov h b (modL b lane many items spare stat tape taped fk fp mat mst tok mval W past nac imgs kept gvn costs lst sets bst mlo mal (vp_updL (f_Model_bound_L61 items r j mpr k3) k3 ((items (((40 * r) + j) + k3)).toInt64)) lak trc ntr)) b (modL b lane many items spare stat tape taped fk fp mat mst tok mval W past nac imgs kept gvn costs lst sets bst mlo mal (vp_updL (f_Model_bound_L61 items r j mpr k3) k3 ((items (((40 * r) + j) + k3)).toInt64)) lak trc ntr) := ov_isV
            refine r_iinc [(0, .ref b), (1, .int (nI r)), (2, .int (nI j)), (3, .int (nI (k3 + 1)))] X (nI (k3 + 1)) 3 dX8_bound_91 rfl (nI_succ _).symm (by decide) rfl ?_
            refine r_goto X 61 dX8_bound_94 rfl ?_
            exact ih
          have hv_b : isV (ov h b (modL b lane many items spare stat tape taped fk fp mat mst tok mval W past nac imgs kept gvn costs lst sets bst mlo mal (f_Model_bound_L61 items r j mpr Hh) lak trc ntr)) b (modL b lane many items spare stat tape taped fk fp mat mst tok mval W past nac imgs kept gvn costs lst sets bst mlo mal (f_Model_bound_L61 items r j mpr Hh) lak trc ntr) := ov_isV
          refine r_iload_n X 3 dX8_bound_61 rfl ?_
          refine r_aload_n X 0 dX8_bound_62 rfl ?_
          refine gf_X8_25 X dX8_bound_63 (hv_b 0 _ rfl) rfl ?_
          refine r_iconst X (1 : Int32) dX8_bound_66 (by decide) ?_
          refine r_ialdv X (v := nI Hh) (k0 := 1) dX8_bound_67 (hv_b (6 + 0) _ (modL_W (by omega))) (by omega) (by decide) h1 ?_
          refine r_icmp_ge X 97 dX8_bound_68 rfl (fun _ => ?_) (fun z => absurd z (nI_nlt (a := Hh) (b := Hh) (by omega) (by omega)))
          refine r_aload_n X 0 dX8_bound_97 rfl ?_
          refine r_iconst X (0 : Int32) dX8_bound_98 (by decide) ?_
          refine pf_X8_67 X dX8_bound_99 (hv_b 0 _ rfl) (Nat.le_of_ble_eq_true rfl) ?_
          refine SW.heq (h2 := (ov h b (modL b lane many items spare (0 : Int32) tape taped fk fp mat mst tok mval W past nac imgs kept gvn costs lst sets bst mlo mal (f_Model_bound_L61 items r j mpr Hh) lak trc ntr))) (ov_up 0 (Nat.le_of_ble_eq_true rfl) rfl) ?_
          have hv_b : isV (ov h b (modL b lane many items spare (0 : Int32) tape taped fk fp mat mst tok mval W past nac imgs kept gvn costs lst sets bst mlo mal (f_Model_bound_L61 items r j mpr Hh) lak trc ntr)) b (modL b lane many items spare (0 : Int32) tape taped fk fp mat mst tok mval W past nac imgs kept gvn costs lst sets bst mlo mal (f_Model_bound_L61 items r j mpr Hh) lak trc ntr) := ov_isV
          refine r_aload_n X 0 dX8_bound_102 rfl ?_
          refine r_aload_n X 0 dX8_bound_103 rfl ?_
          refine gf_X8_25 X dX8_bound_104 (hv_b 0 _ rfl) rfl ?_
          refine cl_X8_277 X (by decide) dX8_bound_107 (Nat.le_of_ble_eq_true rfl) (hv_b 0 _ rfl) (c_Model_boundOf  (by first | assumption | omega) (by first | assumption | omega) (by first | assumption | omega) (by first | assumption | omega) (by first | assumption | omega)) ?_
          obtain ⟨q1, eq1⟩ : ∃ q, q = f_Model_boundOf W mlo mal (f_Model_bound_L61 items r j mpr Hh) 0 U Hh := ⟨_, rfl⟩
          rw [← eq1]
          rw [← eq1] at hf
          try dsimp only at hf
          have hv_b : isV (ov h b (modL b lane many items spare (0 : Int32) tape taped fk fp mat mst tok mval W past nac imgs kept gvn costs lst sets bst q1.2.1 q1.2.2 (f_Model_bound_L61 items r j mpr Hh) lak trc ntr)) b (modL b lane many items spare (0 : Int32) tape taped fk fp mat mst tok mval W past nac imgs kept gvn costs lst sets bst q1.2.1 q1.2.2 (f_Model_bound_L61 items r j mpr Hh) lak trc ntr) := ov_isV
          try subst hf
          exact r_lreturn X Y dX8_bound_110 rfl rfl
        · rw [if_pos cp] at hf
          refine r_aload_n X 0 dX8_bound_52 rfl ?_
          refine r_iconst X (2 : Int32) dX8_bound_53 (by decide) ?_
          refine cl_X8_81 X (by decide) dX8_bound_54 (Nat.le_of_ble_eq_true rfl) (hv_b 0 _ rfl) (c_Model_found  ) ?_
          obtain ⟨q2, eq2⟩ : ∃ q, q = f_Model_found (2 : Int32) := ⟨_, rfl⟩
          rw [← eq2]
          rw [← eq2] at hf
          try dsimp only at hf
          have hv_b : isV (ov h b (modL b lane many items spare q2.2 tape taped fk fp mat mst tok mval W past nac imgs kept gvn costs lst sets bst mlo mal mpr lak trc ntr)) b (modL b lane many items spare q2.2 tape taped fk fp mat mst tok mval W past nac imgs kept gvn costs lst sets bst mlo mal mpr lak trc ntr) := ov_isV
          refine r_i2l X dX8_bound_57 ?_
          try subst hf
          exact r_lreturn X Y dX8_bound_58 rfl rfl
      · rw [if_neg c2] at hf
        refine r_aload_n X 0 dX8_bound_30 rfl ?_
        refine r_iconst X (1 : Int32) dX8_bound_31 (by decide) ?_
        refine cl_X8_81 X (by decide) dX8_bound_32 (Nat.le_of_ble_eq_true rfl) (hv_b 0 _ rfl) (c_Model_found  ) ?_
        obtain ⟨q3, eq3⟩ : ∃ q, q = f_Model_found (1 : Int32) := ⟨_, rfl⟩
        rw [← eq3]
        rw [← eq3] at hf
        try dsimp only at hf
        have hv_b : isV (ov h b (modL b lane many items spare q3.2 tape taped fk fp mat mst tok mval W past nac imgs kept gvn costs lst sets bst mlo mal mpr lak trc ntr)) b (modL b lane many items spare q3.2 tape taped fk fp mat mst tok mval W past nac imgs kept gvn costs lst sets bst mlo mal mpr lak trc ntr) := ov_isV
        refine r_i2l X dX8_bound_35 ?_
        try subst hf
        exact r_lreturn X Y dX8_bound_36 rfl rfl
    · rw [if_pos cr] at hf
      refine r_ldc2 X dX8_bound_18 kk_X8_270 ?_
      try subst hf
      exact r_lreturn X Y dX8_bound_21 rfl rfl
  · rw [if_pos c1] at hf
    refine r_ldc2 X dX8_bound_7 kk_X8_275 ?_
    try subst hf
    exact r_lreturn X Y dX8_bound_10 rfl rfl

def f_Model_moved (W : Nat → Nat → Int32) (mlo : Int64) (mal : Int32) (mpr : Nat → Int64) (lak : Nat → Int64) (n : Int32) (wh : Int32) (U : Nat) (Hh : Nat) : Int32 × Int64 × Int32 × (Nat → Int64) × (Nat → Int64) := (if (f_Model_isDay W) = (0 : Int32) then ((-1000002 : Int32), mlo, mal, mpr, lak) else (if (f_Model_in n (0 : Int32) (12 : Int32)) = (0 : Int32) then ((-1000001 : Int32), mlo, mal, mpr, lak) else (if wh = (-1 : Int32) then ((fun q1 => (if wh = (-1 : Int32) then (q1.1.toInt32, q1.2.1, q1.2.2.1, q1.2.2.2.1, q1.2.2.2.2) else ((q1.2.2.2.1 wh.toNatClampNeg).toInt32, q1.2.1, q1.2.2.1, q1.2.2.2.1, q1.2.2.2.2))) (f_Model_moves W mlo mal mpr lak (n.toNatClampNeg) U Hh)) else (if (f_Model_isHour wh Hh) = (0 : Int32) then ((-1000001 : Int32), mlo, mal, mpr, lak) else ((fun q2 => (if wh = (-1 : Int32) then (q2.1.toInt32, q2.2.1, q2.2.2.1, q2.2.2.2.1, q2.2.2.2.2) else ((q2.2.2.2.1 wh.toNatClampNeg).toInt32, q2.2.1, q2.2.2.1, q2.2.2.2.1, q2.2.2.2.2))) (f_Model_moves W mlo mal mpr lak (n.toNatClampNeg) U Hh))))))
set_option maxRecDepth 20000 in
set_option maxHeartbeats 4000000 in
theorem c_Model_moved {G : mG} {h : mHp} {b : Nat} {lane : Nat → Int32} {many : Nat → Nat} {items : Nat → Int32} {spare : Nat → Int32} {stat : Int32} {tape : Nat → Int32} {taped : Nat} {fk : Int32} {fp : Int32} {mat : Nat} {mst : Nat} {tok : Int32} {mval : Int32} {W : Nat → Nat → Int32} {past : Nat → Int32} {nac : Nat} {imgs : Nat → Int32} {kept : Nat → Int32} {gvn : Nat → Int32} {costs : Nat → Int32} {lst : Nat → Int32} {sets : Nat → Int32} {bst : Int32} {mlo : Int64} {mal : Int32} {mpr : Nat → Int64} {lak : Nat → Int64} {trc : Nat → Int32} {ntr : Nat} {n : Int32} {wh : Int32} {U : Nat} {Hh : Nat}   (h0 : W 0 0 = nI U) (hU : U ≤ 4) (h1 : W 0 1 = nI Hh) (hH : Hh ≤ 6) : Ret G 6 mX8_moved [.ref b, .int n, .int wh] (ov h b (modL b lane many items spare stat tape taped fk fp mat mst tok mval W past nac imgs kept gvn costs lst sets bst mlo mal mpr lak trc ntr)) (some (.int (f_Model_moved W mlo mal mpr lak n wh U Hh).1)) (ov h b (modL b lane many items spare stat tape taped fk fp mat mst tok mval W past nac imgs kept gvn costs lst sets bst (f_Model_moved W mlo mal mpr lak n wh U Hh).2.1 (f_Model_moved W mlo mal mpr lak n wh U Hh).2.2.1 (f_Model_moved W mlo mal mpr lak n wh U Hh).2.2.2.1 (f_Model_moved W mlo mal mpr lak n wh U Hh).2.2.2.2 trc ntr)) := by
  generalize hf : f_Model_moved W mlo mal mpr lak n wh U Hh = R
  unfold f_Model_moved at hf
  refine Ret.of [(0, .ref b), (1, .int n), (2, .int wh)] (by decide) (Nat.le_of_ble_eq_true rfl) rfl ?_
  rintro Z rfl X Y
  have hv_b : isV (ov h b (modL b lane many items spare stat tape taped fk fp mat mst tok mval W past nac imgs kept gvn costs lst sets bst mlo mal mpr lak trc ntr)) b (modL b lane many items spare stat tape taped fk fp mat mst tok mval W past nac imgs kept gvn costs lst sets bst mlo mal mpr lak trc ntr) := ov_isV
  refine r_aload_n X 0 dX8_moved_0 rfl ?_
  refine cl_X8_227 X (by decide) dX8_moved_1 (Nat.le_of_ble_eq_true rfl) (hv_b 0 _ rfl) (c_Model_isDay hv_b ) ?_
  refine r_if_ne X 10 dX8_moved_4 rfl (fun c1 => ?_) (fun c1 => ?_)
  · rw [if_neg c1] at hf
    refine r_iload_n X 1 dX8_moved_10 rfl ?_
    refine r_iconst X (0 : Int32) dX8_moved_11 (by decide) ?_
    refine r_bipush X (12 : Int32) dX8_moved_12 (by decide) ?_
    refine cl_X8_72 X (by decide) dX8_moved_14 (Nat.le_of_ble_eq_true rfl) (c_Model_in  ) ?_
    refine r_if_eq X 33 dX8_moved_17 rfl (fun cn => ?_) (fun cn => ?_)
    · rw [if_pos cn] at hf
      refine r_ldc X dX8_moved_33 kk_X8_80 ?_
      try subst hf
      exact r_ireturn X Y dX8_moved_35 rfl rfl
    · rw [if_neg cn] at hf
      obtain ⟨m, hm, rfl⟩ := inC_nat (N := 12) rfl (by decide) cn
      try simp only [nI_clamp (show m < 2 ^ 31 by omega)] at hf
      refine r_iload_n X 2 dX8_moved_20 rfl ?_
      refine r_iconst X (-1 : Int32) dX8_moved_21 (by decide) ?_
      refine r_icmp_eq X 36 dX8_moved_22 rfl (fun ca => ?_) (fun ca => ?_)
      · rw [if_pos ca] at hf
        refine r_aload_n X 0 dX8_moved_36 rfl ?_
        refine r_iload_n X 1 dX8_moved_37 rfl ?_
        refine cl_X8_281 X (by decide) dX8_moved_38 (Nat.le_of_ble_eq_true rfl) (hv_b 0 _ rfl) (c_Model_moves  (by first | assumption | omega) (by first | assumption | omega) (by first | assumption | omega) (by first | assumption | omega) (by first | assumption | omega)) ?_
        obtain ⟨q1, eq1⟩ : ∃ q, q = f_Model_moves W mlo mal mpr lak m U Hh := ⟨_, rfl⟩
        rw [← eq1]
        rw [← eq1] at hf
        try dsimp only at hf
        have hv_b : isV (ov h b (modL b lane many items spare stat tape taped fk fp mat mst tok mval W past nac imgs kept gvn costs lst sets bst q1.2.1 q1.2.2.1 q1.2.2.2.1 q1.2.2.2.2 trc ntr)) b (modL b lane many items spare stat tape taped fk fp mat mst tok mval W past nac imgs kept gvn costs lst sets bst q1.2.1 q1.2.2.1 q1.2.2.2.1 q1.2.2.2.2 trc ntr) := ov_isV
        refine r_lstore_n [(0, .ref b), (1, .int (nI m)), (2, .int wh), (3, .long q1.1)] X dX8_moved_41 rfl (by decide) rfl ?_
        refine r_iload_n X 2 dX8_moved_42 rfl ?_
        refine r_iconst X (-1 : Int32) dX8_moved_43 (by decide) ?_
        refine r_icmp_ne X 51 dX8_moved_44 rfl (fun cb => ?_) (fun cb => ?_)
        · rw [if_neg cb] at hf
          refine r_aload_n X 0 dX8_moved_51 rfl ?_
          refine gf_X8_56 X dX8_moved_52 (hv_b 0 _ rfl) rfl ?_
          refine r_iload_n X 2 dX8_moved_55 rfl ?_
          refine r_lald X _ dX8_moved_56 (hv_b 16 _ rfl) (by first | exact isHour_in hH cv | exact absurd ca cb) rfl ?_
          refine r_l2i X dX8_moved_57 ?_
          try subst hf
          exact r_ireturn X Y dX8_moved_58 rfl rfl
        · rw [if_pos cb] at hf
          refine r_lload_n X 3 dX8_moved_47 rfl ?_
          refine r_goto X 57 dX8_moved_48 rfl ?_
          refine r_l2i X dX8_moved_57 ?_
          try subst hf
          exact r_ireturn X Y dX8_moved_58 rfl rfl
      · rw [if_neg ca] at hf
        refine r_aload_n X 0 dX8_moved_25 rfl ?_
        refine r_iload_n X 2 dX8_moved_26 rfl ?_
        refine cl_X8_233 X (by decide) dX8_moved_27 (Nat.le_of_ble_eq_true rfl) (hv_b 0 _ rfl) (c_Model_isHour hv_b (by first | assumption | omega) (by first | assumption | omega)) ?_
        refine r_if_ne X 36 dX8_moved_30 rfl (fun cv => ?_) (fun cv => ?_)
        · rw [if_neg cv] at hf
          refine r_aload_n X 0 dX8_moved_36 rfl ?_
          refine r_iload_n X 1 dX8_moved_37 rfl ?_
          refine cl_X8_281 X (by decide) dX8_moved_38 (Nat.le_of_ble_eq_true rfl) (hv_b 0 _ rfl) (c_Model_moves  (by first | assumption | omega) (by first | assumption | omega) (by first | assumption | omega) (by first | assumption | omega) (by first | assumption | omega)) ?_
          obtain ⟨q2, eq2⟩ : ∃ q, q = f_Model_moves W mlo mal mpr lak m U Hh := ⟨_, rfl⟩
          rw [← eq2]
          rw [← eq2] at hf
          try dsimp only at hf
          have hv_b : isV (ov h b (modL b lane many items spare stat tape taped fk fp mat mst tok mval W past nac imgs kept gvn costs lst sets bst q2.2.1 q2.2.2.1 q2.2.2.2.1 q2.2.2.2.2 trc ntr)) b (modL b lane many items spare stat tape taped fk fp mat mst tok mval W past nac imgs kept gvn costs lst sets bst q2.2.1 q2.2.2.1 q2.2.2.2.1 q2.2.2.2.2 trc ntr) := ov_isV
          refine r_lstore_n [(0, .ref b), (1, .int (nI m)), (2, .int wh), (3, .long q2.1)] X dX8_moved_41 rfl (by decide) rfl ?_
          refine r_iload_n X 2 dX8_moved_42 rfl ?_
          refine r_iconst X (-1 : Int32) dX8_moved_43 (by decide) ?_
          refine r_icmp_ne X 51 dX8_moved_44 rfl (fun cb => ?_) (fun cb => ?_)
          · rw [if_neg cb] at hf
            refine r_aload_n X 0 dX8_moved_51 rfl ?_
            refine gf_X8_56 X dX8_moved_52 (hv_b 0 _ rfl) rfl ?_
            refine r_iload_n X 2 dX8_moved_55 rfl ?_
            refine r_lald X _ dX8_moved_56 (hv_b 16 _ rfl) (by first | exact isHour_in hH cv | exact absurd ca cb) rfl ?_
            refine r_l2i X dX8_moved_57 ?_
            try subst hf
            exact r_ireturn X Y dX8_moved_58 rfl rfl
          · rw [if_pos cb] at hf
            refine r_lload_n X 3 dX8_moved_47 rfl ?_
            refine r_goto X 57 dX8_moved_48 rfl ?_
            refine r_l2i X dX8_moved_57 ?_
            try subst hf
            exact r_ireturn X Y dX8_moved_58 rfl rfl
        · rw [if_pos cv] at hf
          refine r_ldc X dX8_moved_33 kk_X8_80 ?_
          try subst hf
          exact r_ireturn X Y dX8_moved_35 rfl rfl
  · rw [if_pos c1] at hf
    refine r_ldc X dX8_moved_7 kk_X8_223 ?_
    try subst hf
    exact r_ireturn X Y dX8_moved_9 rfl rfl
