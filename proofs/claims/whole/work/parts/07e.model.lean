def lt_ {α β : Type} (a : α) (f : α → β) : β := f a
theorem lt_eq {α β : Type} (a : α) (f : α → β) : lt_ a f = f a := rfl
theorem vu_self {α : Type} {f : Nat → α} {k : Nat} {v : α} : va_up f k v k = v := by simp [va_up]

def f_Model_readsUnit (tape : Nat → Int32) (taped : Nat) (fk : Int32) (fp : Int32) (mat : Nat) (mst : Nat) (tok : Int32) (mval : Int32) (W : Nat → Nat → Int32) (Ud : Nat) : Int32 × Int32 × Nat × Nat × Int32 × Int32 × (Nat → Nat → Int32) := (lt_ (f_Model_takes tape taped fk fp mat mst tok mval (if (nI Ud) < (4 : Int32) then (1 : Int32) else (0 : Int32)) (3 : Int32)) (fun q1 => (lt_ (f_Model_figure tape taped q1.2.1 q1.2.2.1 q1.2.2.2.1 q1.2.2.2.2.1 q1.2.2.2.2.2.1 q1.2.2.2.2.2.2 (0 : Int32) (20 : Int32)) (fun q2 => (lt_ (f_Model_behind tape taped q2.2.1 q2.2.2.1 q2.2.2.2.1 q2.2.2.2.2.1 q2.2.2.2.2.2.1 q2.2.2.2.2.2.2 q2.1 (30 : Int32)) (fun q3 => (lt_ (f_Model_behind tape taped q3.2.1 q3.2.2.1 q3.2.2.2.1 q3.2.2.2.2.1 q3.2.2.2.2.2.1 q3.2.2.2.2.2.2 (1 : Int32) (9 : Int32)) (fun q4 => (lt_ (f_Model_behind tape taped q4.2.1 q4.2.2.1 q4.2.2.2.1 q4.2.2.2.2.1 q4.2.2.2.2.2.1 q4.2.2.2.2.2.2 (0 : Int32) (40 : Int32)) (fun q5 => (lt_ (f_Model_behind tape taped q5.2.1 q5.2.2.1 q5.2.2.2.1 q5.2.2.2.2.1 q5.2.2.2.2.2.1 q5.2.2.2.2.2.2 (1 : Int32) (3 : Int32)) (fun q6 => (lt_ (f_Model_behind tape taped q6.2.1 q6.2.2.1 q6.2.2.2.1 q6.2.2.2.2.1 q6.2.2.2.2.2.1 q6.2.2.2.2.2.2 (1 : Int32) (3 : Int32)) (fun q7 => (lt_ (f_Model_takes tape taped q7.2.1 q7.2.2.1 q7.2.2.2.1 q7.2.2.2.2.1 q7.2.2.2.2.2.1 q7.2.2.2.2.2.2 (if q7.2.2.2.2.2.1 = (4 : Int32) then (1 : Int32) else (0 : Int32)) (1 : Int32)) (fun q8 => (if (f_Model_isWell q8.2.2.1) = (0 : Int32) then (q8.2.1, q8.2.2.1, q8.2.2.2.1, q8.2.2.2.2.1, q8.2.2.2.2.2.1, q8.2.2.2.2.2.2, W) else (q8.2.1, q8.2.2.1, q8.2.2.2.1, q8.2.2.2.2.1, q8.2.2.2.2.2.1, q8.2.2.2.2.2.2, va_up W 1 (upd (upd (upd (upd (upd (upd (upd (upd (upd (W 1) (9 + (8 * (if (nI Ud) < (4 : Int32) then Ud else 0))) (f_Model_kindOf mval)) ((9 + (8 * (if (nI Ud) < (4 : Int32) then Ud else 0))) + 1) q2.1) ((9 + (8 * (if (nI Ud) < (4 : Int32) then Ud else 0))) + 2) q3.1) ((9 + (8 * (if (nI Ud) < (4 : Int32) then Ud else 0))) + 3) q4.1) ((9 + (8 * (if (nI Ud) < (4 : Int32) then Ud else 0))) + 4) q5.1) ((9 + (8 * (if (nI Ud) < (4 : Int32) then Ud else 0))) + 5) q6.1) ((9 + (8 * (if (nI Ud) < (4 : Int32) then Ud else 0))) + 6) q7.1) ((9 + (8 * (if (nI Ud) < (4 : Int32) then Ud else 0))) + 7) (0 : Int32)) 0 (nI (Ud + 1)))))))))))))))))))))
set_option maxRecDepth 20000 in
set_option maxHeartbeats 4000000 in
theorem c_Model_readsUnit {G : mG} {h : mHp} {b : Nat} {lane : Nat → Int32} {many : Nat → Nat} {items : Nat → Int32} {spare : Nat → Int32} {stat : Int32} {tape : Nat → Int32} {taped : Nat} {fk : Int32} {fp : Int32} {mat : Nat} {mst : Nat} {tok : Int32} {mval : Int32} {W : Nat → Nat → Int32} {past : Nat → Int32} {nac : Nat} {imgs : Nat → Int32} {kept : Nat → Int32} {gvn : Nat → Int32} {costs : Nat → Int32} {lst : Nat → Int32} {sets : Nat → Int32} {bst : Int32} {mlo : Int64} {mal : Int32} {mpr : Nat → Int64} {lak : Nat → Int64} {trc : Nat → Int32} {ntr : Nat} {Ud : Nat}   (ht : taped ≤ 120) (hma : mat ≤ taped) (hd0 : W 1 0 = nI Ud) (hUd : Ud ≤ 4) : Ret G 5 mX8_readsUnit [.ref b] (ov h b (modL b lane many items spare stat tape taped fk fp mat mst tok mval W past nac imgs kept gvn costs lst sets bst mlo mal mpr lak trc ntr)) none (ov h b (modL b lane many items spare stat tape taped (f_Model_readsUnit tape taped fk fp mat mst tok mval W Ud).1 (f_Model_readsUnit tape taped fk fp mat mst tok mval W Ud).2.1 (f_Model_readsUnit tape taped fk fp mat mst tok mval W Ud).2.2.1 (f_Model_readsUnit tape taped fk fp mat mst tok mval W Ud).2.2.2.1 (f_Model_readsUnit tape taped fk fp mat mst tok mval W Ud).2.2.2.2.1 (f_Model_readsUnit tape taped fk fp mat mst tok mval W Ud).2.2.2.2.2.1 (f_Model_readsUnit tape taped fk fp mat mst tok mval W Ud).2.2.2.2.2.2 past nac imgs kept gvn costs lst sets bst mlo mal mpr lak trc ntr)) := by
  generalize hf : f_Model_readsUnit tape taped fk fp mat mst tok mval W Ud = R
  unfold f_Model_readsUnit at hf
  refine Ret.of [(0, .ref b)] (by decide) (Nat.le_of_ble_eq_true rfl) rfl ?_
  rintro Z rfl X Y
  have hv_b : isV (ov h b (modL b lane many items spare stat tape taped fk fp mat mst tok mval W past nac imgs kept gvn costs lst sets bst mlo mal mpr lak trc ntr)) b (modL b lane many items spare stat tape taped fk fp mat mst tok mval W past nac imgs kept gvn costs lst sets bst mlo mal mpr lak trc ntr) := ov_isV
  refine r_aload_n X 0 dX8_readsUnit_0 rfl ?_
  refine gf_X8_111 X dX8_readsUnit_1 (hv_b 0 _ rfl) rfl ?_
  refine cl_X8_137 X (by decide) dX8_readsUnit_4 (Nat.le_of_ble_eq_true rfl) (c_Model_kindOf  ) ?_
  refine r_istore_n [(0, .ref b), (1, .int (f_Model_kindOf mval))] X dX8_readsUnit_7 rfl (by decide) rfl ?_
  refine r_aload_n X 0 dX8_readsUnit_8 rfl ?_
  refine r_aload_n X 0 dX8_readsUnit_9 rfl ?_
  refine gf_X8_28 X dX8_readsUnit_10 (hv_b 0 _ rfl) rfl ?_
  refine r_iconst X (0 : Int32) dX8_readsUnit_13 (by decide) ?_
  refine r_ialdv X (v := nI Ud) (k0 := 0) dX8_readsUnit_14 (hv_b (6 + 1) _ (modL_W (by omega))) (by omega) (by decide) hd0 ?_
  refine r_iconst X (4 : Int32) dX8_readsUnit_15 (by decide) ?_
  refine m_join (P := SW Z 24 [(0, .ref b), (1, .int (f_Model_kindOf mval))] [.int (if (nI Ud) < (4 : Int32) then (1 : Int32) else (0 : Int32)), .ref b] (ov h b (modL b lane many items spare stat tape taped fk fp mat mst tok mval W past nac imgs kept gvn costs lst sets bst mlo mal mpr lak trc ntr))) (fun K => ?_) ?_
  · refine r_icmp_ge X 23 dX8_readsUnit_16 rfl (fun c1 => ?_) (fun c1 => ?_)
    · skip
      refine r_iconst X (0 : Int32) dX8_readsUnit_23 (by decide) ?_
      try simp only [if_neg c1] at K ⊢
      exact K
    · skip
      refine r_iconst X (1 : Int32) dX8_readsUnit_19 (by decide) ?_
      refine r_goto X 24 dX8_readsUnit_20 rfl ?_
      try simp only [if_pos c1] at K ⊢
      exact K
  have hv_b : isV (ov h b (modL b lane many items spare stat tape taped fk fp mat mst tok mval W past nac imgs kept gvn costs lst sets bst mlo mal mpr lak trc ntr)) b (modL b lane many items spare stat tape taped fk fp mat mst tok mval W past nac imgs kept gvn costs lst sets bst mlo mal mpr lak trc ntr) := ov_isV
  refine r_iconst X (3 : Int32) dX8_readsUnit_24 (by decide) ?_
  refine cl_X8_130 X (by decide) dX8_readsUnit_25 (Nat.le_of_ble_eq_true rfl) (hv_b 0 _ rfl) (c_Model_takes  (by first | assumption | omega) (by first | assumption | omega)) ?_
  obtain ⟨q1, eq1⟩ : ∃ q, q = f_Model_takes tape taped fk fp mat mst tok mval (if (nI Ud) < (4 : Int32) then (1 : Int32) else (0 : Int32)) (3 : Int32) := ⟨_, rfl⟩
  rw [← eq1]
  rw [← eq1] at hf
  rw [lt_eq] at hf
  have hma_q1 : q1.2.2.2.1 ≤ taped := by rw [eq1]; exact takes_post (by assumption) (by assumption)
  have hv_b : isV (ov h b (modL b lane many items spare stat tape taped q1.2.1 q1.2.2.1 q1.2.2.2.1 q1.2.2.2.2.1 q1.2.2.2.2.2.1 q1.2.2.2.2.2.2 W past nac imgs kept gvn costs lst sets bst mlo mal mpr lak trc ntr)) b (modL b lane many items spare stat tape taped q1.2.1 q1.2.2.1 q1.2.2.2.1 q1.2.2.2.2.1 q1.2.2.2.2.2.1 q1.2.2.2.2.2.2 W past nac imgs kept gvn costs lst sets bst mlo mal mpr lak trc ntr) := ov_isV
  refine r_pop X dX8_readsUnit_28 rfl ?_
  refine r_bipush X (9 : Int32) dX8_readsUnit_29 (by decide) ?_
  refine r_bipush X (8 : Int32) dX8_readsUnit_31 (by decide) ?_
  refine r_aload_n X 0 dX8_readsUnit_33 rfl ?_
  refine gf_X8_28 X dX8_readsUnit_34 (hv_b 0 _ rfl) rfl ?_
  refine r_iconst X (0 : Int32) dX8_readsUnit_37 (by decide) ?_
  refine r_ialdv X (v := nI Ud) (k0 := 0) dX8_readsUnit_38 (hv_b (6 + 1) _ (modL_W (by omega))) (by omega) (by decide) hd0 ?_
  refine r_iconst X (4 : Int32) dX8_readsUnit_39 (by decide) ?_
  refine m_join (P := SW Z 53 [(0, .ref b), (1, .int (f_Model_kindOf mval))] [.int (nI (if (nI Ud) < (4 : Int32) then Ud else 0)), .int (8 : Int32), .int (9 : Int32)] (ov h b (modL b lane many items spare stat tape taped q1.2.1 q1.2.2.1 q1.2.2.2.1 q1.2.2.2.2.1 q1.2.2.2.2.2.1 q1.2.2.2.2.2.2 W past nac imgs kept gvn costs lst sets bst mlo mal mpr lak trc ntr))) (fun K => ?_) ?_
  · refine r_icmp_ge X 52 dX8_readsUnit_40 rfl (fun c2 => ?_) (fun c2 => ?_)
    · skip
      refine r_iconst X (0 : Int32) dX8_readsUnit_52 (by decide) ?_
      try simp only [if_neg c2] at K ⊢
      exact K
    · skip
      refine r_aload_n X 0 dX8_readsUnit_43 rfl ?_
      refine gf_X8_28 X dX8_readsUnit_44 (hv_b 0 _ rfl) rfl ?_
      refine r_iconst X (0 : Int32) dX8_readsUnit_47 (by decide) ?_
      refine r_ialdv X (v := nI Ud) (k0 := 0) dX8_readsUnit_48 (hv_b (6 + 1) _ (modL_W (by omega))) (by omega) (by decide) hd0 ?_
      refine r_goto X 53 dX8_readsUnit_49 rfl ?_
      try simp only [if_pos c2] at K ⊢
      exact K
  have hv_b : isV (ov h b (modL b lane many items spare stat tape taped q1.2.1 q1.2.2.1 q1.2.2.2.1 q1.2.2.2.2.1 q1.2.2.2.2.2.1 q1.2.2.2.2.2.2 W past nac imgs kept gvn costs lst sets bst mlo mal mpr lak trc ntr)) b (modL b lane many items spare stat tape taped q1.2.1 q1.2.2.1 q1.2.2.2.1 q1.2.2.2.2.1 q1.2.2.2.2.2.1 q1.2.2.2.2.2.2 W past nac imgs kept gvn costs lst sets bst mlo mal mpr lak trc ntr) := ov_isV
  refine r_imuln X (a := 8) (b := (if (nI Ud) < (4 : Int32) then Ud else 0)) dX8_readsUnit_53 ?_
  refine r_iaddn X (a := 9) (b := 8 * (if (nI Ud) < (4 : Int32) then Ud else 0)) dX8_readsUnit_54 ?_
  refine r_istore_n [(0, .ref b), (1, .int (f_Model_kindOf mval)), (2, .int (nI (9 + (8 * (if (nI Ud) < (4 : Int32) then Ud else 0)))))] X dX8_readsUnit_55 rfl (by decide) rfl ?_
  refine r_aload_n X 0 dX8_readsUnit_56 rfl ?_
  refine r_iconst X (0 : Int32) dX8_readsUnit_57 (by decide) ?_
  refine r_bipush X (20 : Int32) dX8_readsUnit_58 (by decide) ?_
  refine cl_X8_134 X (by decide) dX8_readsUnit_60 (Nat.le_of_ble_eq_true rfl) (hv_b 0 _ rfl) (c_Model_figure  (by first | assumption | omega) (by first | assumption | omega)) ?_
  obtain ⟨q2, eq2⟩ : ∃ q, q = f_Model_figure tape taped q1.2.1 q1.2.2.1 q1.2.2.2.1 q1.2.2.2.2.1 q1.2.2.2.2.2.1 q1.2.2.2.2.2.2 (0 : Int32) (20 : Int32) := ⟨_, rfl⟩
  rw [← eq2]
  rw [← eq2] at hf
  rw [lt_eq] at hf
  have hma_q2 : q2.2.2.2.1 ≤ taped := by rw [eq2]; exact figure_post (by assumption) (by assumption)
  have hv_b : isV (ov h b (modL b lane many items spare stat tape taped q2.2.1 q2.2.2.1 q2.2.2.2.1 q2.2.2.2.2.1 q2.2.2.2.2.2.1 q2.2.2.2.2.2.2 W past nac imgs kept gvn costs lst sets bst mlo mal mpr lak trc ntr)) b (modL b lane many items spare stat tape taped q2.2.1 q2.2.2.1 q2.2.2.2.1 q2.2.2.2.2.1 q2.2.2.2.2.2.1 q2.2.2.2.2.2.2 W past nac imgs kept gvn costs lst sets bst mlo mal mpr lak trc ntr) := ov_isV
  refine r_istore_n [(0, .ref b), (1, .int (f_Model_kindOf mval)), (2, .int (nI (9 + (8 * (if (nI Ud) < (4 : Int32) then Ud else 0))))), (3, .int q2.1)] X dX8_readsUnit_63 rfl (by decide) rfl ?_
  refine r_aload_n X 0 dX8_readsUnit_64 rfl ?_
  refine r_iload_n X 3 dX8_readsUnit_65 rfl ?_
  refine r_bipush X (30 : Int32) dX8_readsUnit_66 (by decide) ?_
  refine cl_X8_140 X (by decide) dX8_readsUnit_68 (Nat.le_of_ble_eq_true rfl) (hv_b 0 _ rfl) (c_Model_behind  (by first | assumption | omega) (by first | assumption | omega)) ?_
  obtain ⟨q3, eq3⟩ : ∃ q, q = f_Model_behind tape taped q2.2.1 q2.2.2.1 q2.2.2.2.1 q2.2.2.2.2.1 q2.2.2.2.2.2.1 q2.2.2.2.2.2.2 q2.1 (30 : Int32) := ⟨_, rfl⟩
  rw [← eq3]
  rw [← eq3] at hf
  rw [lt_eq] at hf
  have hma_q3 : q3.2.2.2.1 ≤ taped := by rw [eq3]; exact behind_post (by assumption) (by assumption)
  have hv_b : isV (ov h b (modL b lane many items spare stat tape taped q3.2.1 q3.2.2.1 q3.2.2.2.1 q3.2.2.2.2.1 q3.2.2.2.2.2.1 q3.2.2.2.2.2.2 W past nac imgs kept gvn costs lst sets bst mlo mal mpr lak trc ntr)) b (modL b lane many items spare stat tape taped q3.2.1 q3.2.2.1 q3.2.2.2.1 q3.2.2.2.2.1 q3.2.2.2.2.2.1 q3.2.2.2.2.2.2 W past nac imgs kept gvn costs lst sets bst mlo mal mpr lak trc ntr) := ov_isV
  refine r_istore [(0, .ref b), (1, .int (f_Model_kindOf mval)), (2, .int (nI (9 + (8 * (if (nI Ud) < (4 : Int32) then Ud else 0))))), (3, .int q2.1), (4, .int q3.1)] X dX8_readsUnit_71 (by decide) rfl ?_
  refine r_aload_n X 0 dX8_readsUnit_73 rfl ?_
  refine r_iconst X (1 : Int32) dX8_readsUnit_74 (by decide) ?_
  refine r_bipush X (9 : Int32) dX8_readsUnit_75 (by decide) ?_
  refine cl_X8_140 X (by decide) dX8_readsUnit_77 (Nat.le_of_ble_eq_true rfl) (hv_b 0 _ rfl) (c_Model_behind  (by first | assumption | omega) (by first | assumption | omega)) ?_
  obtain ⟨q4, eq4⟩ : ∃ q, q = f_Model_behind tape taped q3.2.1 q3.2.2.1 q3.2.2.2.1 q3.2.2.2.2.1 q3.2.2.2.2.2.1 q3.2.2.2.2.2.2 (1 : Int32) (9 : Int32) := ⟨_, rfl⟩
  rw [← eq4]
  rw [← eq4] at hf
  rw [lt_eq] at hf
  have hma_q4 : q4.2.2.2.1 ≤ taped := by rw [eq4]; exact behind_post (by assumption) (by assumption)
  have hv_b : isV (ov h b (modL b lane many items spare stat tape taped q4.2.1 q4.2.2.1 q4.2.2.2.1 q4.2.2.2.2.1 q4.2.2.2.2.2.1 q4.2.2.2.2.2.2 W past nac imgs kept gvn costs lst sets bst mlo mal mpr lak trc ntr)) b (modL b lane many items spare stat tape taped q4.2.1 q4.2.2.1 q4.2.2.2.1 q4.2.2.2.2.1 q4.2.2.2.2.2.1 q4.2.2.2.2.2.2 W past nac imgs kept gvn costs lst sets bst mlo mal mpr lak trc ntr) := ov_isV
  refine r_istore [(0, .ref b), (1, .int (f_Model_kindOf mval)), (2, .int (nI (9 + (8 * (if (nI Ud) < (4 : Int32) then Ud else 0))))), (3, .int q2.1), (4, .int q3.1), (5, .int q4.1)] X dX8_readsUnit_80 (by decide) rfl ?_
  refine r_aload_n X 0 dX8_readsUnit_82 rfl ?_
  refine r_iconst X (0 : Int32) dX8_readsUnit_83 (by decide) ?_
  refine r_bipush X (40 : Int32) dX8_readsUnit_84 (by decide) ?_
  refine cl_X8_140 X (by decide) dX8_readsUnit_86 (Nat.le_of_ble_eq_true rfl) (hv_b 0 _ rfl) (c_Model_behind  (by first | assumption | omega) (by first | assumption | omega)) ?_
  obtain ⟨q5, eq5⟩ : ∃ q, q = f_Model_behind tape taped q4.2.1 q4.2.2.1 q4.2.2.2.1 q4.2.2.2.2.1 q4.2.2.2.2.2.1 q4.2.2.2.2.2.2 (0 : Int32) (40 : Int32) := ⟨_, rfl⟩
  rw [← eq5]
  rw [← eq5] at hf
  rw [lt_eq] at hf
  have hma_q5 : q5.2.2.2.1 ≤ taped := by rw [eq5]; exact behind_post (by assumption) (by assumption)
  have hv_b : isV (ov h b (modL b lane many items spare stat tape taped q5.2.1 q5.2.2.1 q5.2.2.2.1 q5.2.2.2.2.1 q5.2.2.2.2.2.1 q5.2.2.2.2.2.2 W past nac imgs kept gvn costs lst sets bst mlo mal mpr lak trc ntr)) b (modL b lane many items spare stat tape taped q5.2.1 q5.2.2.1 q5.2.2.2.1 q5.2.2.2.2.1 q5.2.2.2.2.2.1 q5.2.2.2.2.2.2 W past nac imgs kept gvn costs lst sets bst mlo mal mpr lak trc ntr) := ov_isV
  refine r_istore [(0, .ref b), (1, .int (f_Model_kindOf mval)), (2, .int (nI (9 + (8 * (if (nI Ud) < (4 : Int32) then Ud else 0))))), (3, .int q2.1), (4, .int q3.1), (5, .int q4.1), (6, .int q5.1)] X dX8_readsUnit_89 (by decide) rfl ?_
  refine r_aload_n X 0 dX8_readsUnit_91 rfl ?_
  refine r_iconst X (1 : Int32) dX8_readsUnit_92 (by decide) ?_
  refine r_iconst X (3 : Int32) dX8_readsUnit_93 (by decide) ?_
  refine cl_X8_140 X (by decide) dX8_readsUnit_94 (Nat.le_of_ble_eq_true rfl) (hv_b 0 _ rfl) (c_Model_behind  (by first | assumption | omega) (by first | assumption | omega)) ?_
  obtain ⟨q6, eq6⟩ : ∃ q, q = f_Model_behind tape taped q5.2.1 q5.2.2.1 q5.2.2.2.1 q5.2.2.2.2.1 q5.2.2.2.2.2.1 q5.2.2.2.2.2.2 (1 : Int32) (3 : Int32) := ⟨_, rfl⟩
  rw [← eq6]
  rw [← eq6] at hf
  rw [lt_eq] at hf
  have hma_q6 : q6.2.2.2.1 ≤ taped := by rw [eq6]; exact behind_post (by assumption) (by assumption)
  have hv_b : isV (ov h b (modL b lane many items spare stat tape taped q6.2.1 q6.2.2.1 q6.2.2.2.1 q6.2.2.2.2.1 q6.2.2.2.2.2.1 q6.2.2.2.2.2.2 W past nac imgs kept gvn costs lst sets bst mlo mal mpr lak trc ntr)) b (modL b lane many items spare stat tape taped q6.2.1 q6.2.2.1 q6.2.2.2.1 q6.2.2.2.2.1 q6.2.2.2.2.2.1 q6.2.2.2.2.2.2 W past nac imgs kept gvn costs lst sets bst mlo mal mpr lak trc ntr) := ov_isV
  refine r_istore [(0, .ref b), (1, .int (f_Model_kindOf mval)), (2, .int (nI (9 + (8 * (if (nI Ud) < (4 : Int32) then Ud else 0))))), (3, .int q2.1), (4, .int q3.1), (5, .int q4.1), (6, .int q5.1), (7, .int q6.1)] X dX8_readsUnit_97 (by decide) rfl ?_
  refine r_aload_n X 0 dX8_readsUnit_99 rfl ?_
  refine r_iconst X (1 : Int32) dX8_readsUnit_100 (by decide) ?_
  refine r_iconst X (3 : Int32) dX8_readsUnit_101 (by decide) ?_
  refine cl_X8_140 X (by decide) dX8_readsUnit_102 (Nat.le_of_ble_eq_true rfl) (hv_b 0 _ rfl) (c_Model_behind  (by first | assumption | omega) (by first | assumption | omega)) ?_
  obtain ⟨q7, eq7⟩ : ∃ q, q = f_Model_behind tape taped q6.2.1 q6.2.2.1 q6.2.2.2.1 q6.2.2.2.2.1 q6.2.2.2.2.2.1 q6.2.2.2.2.2.2 (1 : Int32) (3 : Int32) := ⟨_, rfl⟩
  rw [← eq7]
  rw [← eq7] at hf
  rw [lt_eq] at hf
  have hma_q7 : q7.2.2.2.1 ≤ taped := by rw [eq7]; exact behind_post (by assumption) (by assumption)
  have hv_b : isV (ov h b (modL b lane many items spare stat tape taped q7.2.1 q7.2.2.1 q7.2.2.2.1 q7.2.2.2.2.1 q7.2.2.2.2.2.1 q7.2.2.2.2.2.2 W past nac imgs kept gvn costs lst sets bst mlo mal mpr lak trc ntr)) b (modL b lane many items spare stat tape taped q7.2.1 q7.2.2.1 q7.2.2.2.1 q7.2.2.2.2.1 q7.2.2.2.2.2.1 q7.2.2.2.2.2.2 W past nac imgs kept gvn costs lst sets bst mlo mal mpr lak trc ntr) := ov_isV
  refine r_istore [(0, .ref b), (1, .int (f_Model_kindOf mval)), (2, .int (nI (9 + (8 * (if (nI Ud) < (4 : Int32) then Ud else 0))))), (3, .int q2.1), (4, .int q3.1), (5, .int q4.1), (6, .int q5.1), (7, .int q6.1), (8, .int q7.1)] X dX8_readsUnit_105 (by decide) rfl ?_
  refine r_aload_n X 0 dX8_readsUnit_107 rfl ?_
  refine r_aload_n X 0 dX8_readsUnit_108 rfl ?_
  refine gf_X8_114 X dX8_readsUnit_109 (hv_b 0 _ rfl) rfl ?_
  refine r_iconst X (4 : Int32) dX8_readsUnit_112 (by decide) ?_
  refine m_join (P := SW Z 121 [(0, .ref b), (1, .int (f_Model_kindOf mval)), (2, .int (nI (9 + (8 * (if (nI Ud) < (4 : Int32) then Ud else 0))))), (3, .int q2.1), (4, .int q3.1), (5, .int q4.1), (6, .int q5.1), (7, .int q6.1), (8, .int q7.1)] [.int (if q7.2.2.2.2.2.1 = (4 : Int32) then (1 : Int32) else (0 : Int32)), .ref b] (ov h b (modL b lane many items spare stat tape taped q7.2.1 q7.2.2.1 q7.2.2.2.1 q7.2.2.2.2.1 q7.2.2.2.2.2.1 q7.2.2.2.2.2.2 W past nac imgs kept gvn costs lst sets bst mlo mal mpr lak trc ntr))) (fun K => ?_) ?_
  · refine r_icmp_ne X 120 dX8_readsUnit_113 rfl (fun c3 => ?_) (fun c3 => ?_)
    · skip
      refine r_iconst X (0 : Int32) dX8_readsUnit_120 (by decide) ?_
      try simp only [if_neg c3] at K ⊢
      exact K
    · skip
      refine r_iconst X (1 : Int32) dX8_readsUnit_116 (by decide) ?_
      refine r_goto X 121 dX8_readsUnit_117 rfl ?_
      try simp only [if_pos c3] at K ⊢
      exact K
  have hv_b : isV (ov h b (modL b lane many items spare stat tape taped q7.2.1 q7.2.2.1 q7.2.2.2.1 q7.2.2.2.2.1 q7.2.2.2.2.2.1 q7.2.2.2.2.2.2 W past nac imgs kept gvn costs lst sets bst mlo mal mpr lak trc ntr)) b (modL b lane many items spare stat tape taped q7.2.1 q7.2.2.1 q7.2.2.2.1 q7.2.2.2.2.1 q7.2.2.2.2.2.1 q7.2.2.2.2.2.2 W past nac imgs kept gvn costs lst sets bst mlo mal mpr lak trc ntr) := ov_isV
  refine r_iconst X (1 : Int32) dX8_readsUnit_121 (by decide) ?_
  refine cl_X8_130 X (by decide) dX8_readsUnit_122 (Nat.le_of_ble_eq_true rfl) (hv_b 0 _ rfl) (c_Model_takes  (by first | assumption | omega) (by first | assumption | omega)) ?_
  obtain ⟨q8, eq8⟩ : ∃ q, q = f_Model_takes tape taped q7.2.1 q7.2.2.1 q7.2.2.2.1 q7.2.2.2.2.1 q7.2.2.2.2.2.1 q7.2.2.2.2.2.2 (if q7.2.2.2.2.2.1 = (4 : Int32) then (1 : Int32) else (0 : Int32)) (1 : Int32) := ⟨_, rfl⟩
  rw [← eq8]
  rw [← eq8] at hf
  rw [lt_eq] at hf
  have hma_q8 : q8.2.2.2.1 ≤ taped := by rw [eq8]; exact takes_post (by assumption) (by assumption)
  have hv_b : isV (ov h b (modL b lane many items spare stat tape taped q8.2.1 q8.2.2.1 q8.2.2.2.1 q8.2.2.2.2.1 q8.2.2.2.2.2.1 q8.2.2.2.2.2.2 W past nac imgs kept gvn costs lst sets bst mlo mal mpr lak trc ntr)) b (modL b lane many items spare stat tape taped q8.2.1 q8.2.2.1 q8.2.2.2.1 q8.2.2.2.2.1 q8.2.2.2.2.2.1 q8.2.2.2.2.2.2 W past nac imgs kept gvn costs lst sets bst mlo mal mpr lak trc ntr) := ov_isV
  refine r_pop X dX8_readsUnit_125 rfl ?_
  refine r_aload_n X 0 dX8_readsUnit_126 rfl ?_
  refine cl_X8_120 X (by decide) dX8_readsUnit_127 (Nat.le_of_ble_eq_true rfl) (hv_b 0 _ rfl) (c_Model_isWell hv_b ) ?_
  refine r_if_eq X 220 dX8_readsUnit_130 rfl (fun c4 => ?_) (fun c4 => ?_)
  · rw [if_pos c4] at hf
    try subst hf
    exact r_return X Y dX8_readsUnit_220 rfl rfl
  · rw [if_neg c4] at hf
    have hk := unit_le hUd
    refine r_aload_n X 0 dX8_readsUnit_133 rfl ?_
    refine gf_X8_28 X dX8_readsUnit_134 (hv_b 0 _ rfl) rfl ?_
    refine r_iload_n X 2 dX8_readsUnit_137 rfl ?_
    refine r_iload_n X 1 dX8_readsUnit_138 rfl ?_
    refine r_iastn X (k0 := 9 + (8 * (if (nI Ud) < (4 : Int32) then Ud else 0))) dX8_readsUnit_139 (hv_b (6 + 1) _ (modL_W (by omega))) (by omega) (by first | decide | omega) ?_
    refine SW.heq (h2 := (ov h b (modL b lane many items spare stat tape taped q8.2.1 q8.2.2.1 q8.2.2.2.1 q8.2.2.2.2.1 q8.2.2.2.2.2.1 q8.2.2.2.2.2.2 (va_up W 1 (upd (W 1) (9 + (8 * (if (nI Ud) < (4 : Int32) then Ud else 0))) (f_Model_kindOf mval))) past nac imgs kept gvn costs lst sets bst mlo mal mpr lak trc ntr))) (ov_up (6 + 1) (show _ < 19 by omega) (modL_Wset (by omega))) ?_
    have hv_b : isV (ov h b (modL b lane many items spare stat tape taped q8.2.1 q8.2.2.1 q8.2.2.2.1 q8.2.2.2.2.1 q8.2.2.2.2.2.1 q8.2.2.2.2.2.2 (va_up W 1 (upd (W 1) (9 + (8 * (if (nI Ud) < (4 : Int32) then Ud else 0))) (f_Model_kindOf mval))) past nac imgs kept gvn costs lst sets bst mlo mal mpr lak trc ntr)) b (modL b lane many items spare stat tape taped q8.2.1 q8.2.2.1 q8.2.2.2.1 q8.2.2.2.2.1 q8.2.2.2.2.2.1 q8.2.2.2.2.2.2 (va_up W 1 (upd (W 1) (9 + (8 * (if (nI Ud) < (4 : Int32) then Ud else 0))) (f_Model_kindOf mval))) past nac imgs kept gvn costs lst sets bst mlo mal mpr lak trc ntr) := ov_isV
    refine r_aload_n X 0 dX8_readsUnit_140 rfl ?_
    refine gf_X8_28 X dX8_readsUnit_141 (hv_b 0 _ rfl) rfl ?_
    refine r_iload_n X 2 dX8_readsUnit_144 rfl ?_
    refine r_iconst X (1 : Int32) dX8_readsUnit_145 (by decide) ?_
    refine r_iaddn X (a := 9 + (8 * (if (nI Ud) < (4 : Int32) then Ud else 0))) (b := 1) dX8_readsUnit_146 ?_
    refine r_iload_n X 3 dX8_readsUnit_147 rfl ?_
    refine r_iastn X (k0 := (9 + (8 * (if (nI Ud) < (4 : Int32) then Ud else 0))) + 1) dX8_readsUnit_148 (hv_b (6 + 1) _ (modL_W (by omega))) (by omega) (by first | decide | omega) ?_
    refine SW.heq (h2 := (ov h b (modL b lane many items spare stat tape taped q8.2.1 q8.2.2.1 q8.2.2.2.1 q8.2.2.2.2.1 q8.2.2.2.2.2.1 q8.2.2.2.2.2.2 (va_up W 1 (upd (upd (W 1) (9 + (8 * (if (nI Ud) < (4 : Int32) then Ud else 0))) (f_Model_kindOf mval)) ((9 + (8 * (if (nI Ud) < (4 : Int32) then Ud else 0))) + 1) q2.1)) past nac imgs kept gvn costs lst sets bst mlo mal mpr lak trc ntr))) (ov_up (6 + 1) (show _ < 19 by omega) ((modL_Wset (by omega)).trans (by rw [bx_uu]; rfl))) ?_
    have hv_b : isV (ov h b (modL b lane many items spare stat tape taped q8.2.1 q8.2.2.1 q8.2.2.2.1 q8.2.2.2.2.1 q8.2.2.2.2.2.1 q8.2.2.2.2.2.2 (va_up W 1 (upd (upd (W 1) (9 + (8 * (if (nI Ud) < (4 : Int32) then Ud else 0))) (f_Model_kindOf mval)) ((9 + (8 * (if (nI Ud) < (4 : Int32) then Ud else 0))) + 1) q2.1)) past nac imgs kept gvn costs lst sets bst mlo mal mpr lak trc ntr)) b (modL b lane many items spare stat tape taped q8.2.1 q8.2.2.1 q8.2.2.2.1 q8.2.2.2.2.1 q8.2.2.2.2.2.1 q8.2.2.2.2.2.2 (va_up W 1 (upd (upd (W 1) (9 + (8 * (if (nI Ud) < (4 : Int32) then Ud else 0))) (f_Model_kindOf mval)) ((9 + (8 * (if (nI Ud) < (4 : Int32) then Ud else 0))) + 1) q2.1)) past nac imgs kept gvn costs lst sets bst mlo mal mpr lak trc ntr) := ov_isV
    refine r_aload_n X 0 dX8_readsUnit_149 rfl ?_
    refine gf_X8_28 X dX8_readsUnit_150 (hv_b 0 _ rfl) rfl ?_
    refine r_iload_n X 2 dX8_readsUnit_153 rfl ?_
    refine r_iconst X (2 : Int32) dX8_readsUnit_154 (by decide) ?_
    refine r_iaddn X (a := 9 + (8 * (if (nI Ud) < (4 : Int32) then Ud else 0))) (b := 2) dX8_readsUnit_155 ?_
    refine r_iload X 4 dX8_readsUnit_156 rfl ?_
    refine r_iastn X (k0 := (9 + (8 * (if (nI Ud) < (4 : Int32) then Ud else 0))) + 2) dX8_readsUnit_158 (hv_b (6 + 1) _ (modL_W (by omega))) (by omega) (by first | decide | omega) ?_
    refine SW.heq (h2 := (ov h b (modL b lane many items spare stat tape taped q8.2.1 q8.2.2.1 q8.2.2.2.1 q8.2.2.2.2.1 q8.2.2.2.2.2.1 q8.2.2.2.2.2.2 (va_up W 1 (upd (upd (upd (W 1) (9 + (8 * (if (nI Ud) < (4 : Int32) then Ud else 0))) (f_Model_kindOf mval)) ((9 + (8 * (if (nI Ud) < (4 : Int32) then Ud else 0))) + 1) q2.1) ((9 + (8 * (if (nI Ud) < (4 : Int32) then Ud else 0))) + 2) q3.1)) past nac imgs kept gvn costs lst sets bst mlo mal mpr lak trc ntr))) (ov_up (6 + 1) (show _ < 19 by omega) ((modL_Wset (by omega)).trans (by rw [bx_uu]; rfl))) ?_
    have hv_b : isV (ov h b (modL b lane many items spare stat tape taped q8.2.1 q8.2.2.1 q8.2.2.2.1 q8.2.2.2.2.1 q8.2.2.2.2.2.1 q8.2.2.2.2.2.2 (va_up W 1 (upd (upd (upd (W 1) (9 + (8 * (if (nI Ud) < (4 : Int32) then Ud else 0))) (f_Model_kindOf mval)) ((9 + (8 * (if (nI Ud) < (4 : Int32) then Ud else 0))) + 1) q2.1) ((9 + (8 * (if (nI Ud) < (4 : Int32) then Ud else 0))) + 2) q3.1)) past nac imgs kept gvn costs lst sets bst mlo mal mpr lak trc ntr)) b (modL b lane many items spare stat tape taped q8.2.1 q8.2.2.1 q8.2.2.2.1 q8.2.2.2.2.1 q8.2.2.2.2.2.1 q8.2.2.2.2.2.2 (va_up W 1 (upd (upd (upd (W 1) (9 + (8 * (if (nI Ud) < (4 : Int32) then Ud else 0))) (f_Model_kindOf mval)) ((9 + (8 * (if (nI Ud) < (4 : Int32) then Ud else 0))) + 1) q2.1) ((9 + (8 * (if (nI Ud) < (4 : Int32) then Ud else 0))) + 2) q3.1)) past nac imgs kept gvn costs lst sets bst mlo mal mpr lak trc ntr) := ov_isV
    refine r_aload_n X 0 dX8_readsUnit_159 rfl ?_
    refine gf_X8_28 X dX8_readsUnit_160 (hv_b 0 _ rfl) rfl ?_
    refine r_iload_n X 2 dX8_readsUnit_163 rfl ?_
    refine r_iconst X (3 : Int32) dX8_readsUnit_164 (by decide) ?_
    refine r_iaddn X (a := 9 + (8 * (if (nI Ud) < (4 : Int32) then Ud else 0))) (b := 3) dX8_readsUnit_165 ?_
    refine r_iload X 5 dX8_readsUnit_166 rfl ?_
    refine r_iastn X (k0 := (9 + (8 * (if (nI Ud) < (4 : Int32) then Ud else 0))) + 3) dX8_readsUnit_168 (hv_b (6 + 1) _ (modL_W (by omega))) (by omega) (by first | decide | omega) ?_
    refine SW.heq (h2 := (ov h b (modL b lane many items spare stat tape taped q8.2.1 q8.2.2.1 q8.2.2.2.1 q8.2.2.2.2.1 q8.2.2.2.2.2.1 q8.2.2.2.2.2.2 (va_up W 1 (upd (upd (upd (upd (W 1) (9 + (8 * (if (nI Ud) < (4 : Int32) then Ud else 0))) (f_Model_kindOf mval)) ((9 + (8 * (if (nI Ud) < (4 : Int32) then Ud else 0))) + 1) q2.1) ((9 + (8 * (if (nI Ud) < (4 : Int32) then Ud else 0))) + 2) q3.1) ((9 + (8 * (if (nI Ud) < (4 : Int32) then Ud else 0))) + 3) q4.1)) past nac imgs kept gvn costs lst sets bst mlo mal mpr lak trc ntr))) (ov_up (6 + 1) (show _ < 19 by omega) ((modL_Wset (by omega)).trans (by rw [bx_uu]; rfl))) ?_
    have hv_b : isV (ov h b (modL b lane many items spare stat tape taped q8.2.1 q8.2.2.1 q8.2.2.2.1 q8.2.2.2.2.1 q8.2.2.2.2.2.1 q8.2.2.2.2.2.2 (va_up W 1 (upd (upd (upd (upd (W 1) (9 + (8 * (if (nI Ud) < (4 : Int32) then Ud else 0))) (f_Model_kindOf mval)) ((9 + (8 * (if (nI Ud) < (4 : Int32) then Ud else 0))) + 1) q2.1) ((9 + (8 * (if (nI Ud) < (4 : Int32) then Ud else 0))) + 2) q3.1) ((9 + (8 * (if (nI Ud) < (4 : Int32) then Ud else 0))) + 3) q4.1)) past nac imgs kept gvn costs lst sets bst mlo mal mpr lak trc ntr)) b (modL b lane many items spare stat tape taped q8.2.1 q8.2.2.1 q8.2.2.2.1 q8.2.2.2.2.1 q8.2.2.2.2.2.1 q8.2.2.2.2.2.2 (va_up W 1 (upd (upd (upd (upd (W 1) (9 + (8 * (if (nI Ud) < (4 : Int32) then Ud else 0))) (f_Model_kindOf mval)) ((9 + (8 * (if (nI Ud) < (4 : Int32) then Ud else 0))) + 1) q2.1) ((9 + (8 * (if (nI Ud) < (4 : Int32) then Ud else 0))) + 2) q3.1) ((9 + (8 * (if (nI Ud) < (4 : Int32) then Ud else 0))) + 3) q4.1)) past nac imgs kept gvn costs lst sets bst mlo mal mpr lak trc ntr) := ov_isV
    refine r_aload_n X 0 dX8_readsUnit_169 rfl ?_
    refine gf_X8_28 X dX8_readsUnit_170 (hv_b 0 _ rfl) rfl ?_
    refine r_iload_n X 2 dX8_readsUnit_173 rfl ?_
    refine r_iconst X (4 : Int32) dX8_readsUnit_174 (by decide) ?_
    refine r_iaddn X (a := 9 + (8 * (if (nI Ud) < (4 : Int32) then Ud else 0))) (b := 4) dX8_readsUnit_175 ?_
    refine r_iload X 6 dX8_readsUnit_176 rfl ?_
    refine r_iastn X (k0 := (9 + (8 * (if (nI Ud) < (4 : Int32) then Ud else 0))) + 4) dX8_readsUnit_178 (hv_b (6 + 1) _ (modL_W (by omega))) (by omega) (by first | decide | omega) ?_
    refine SW.heq (h2 := (ov h b (modL b lane many items spare stat tape taped q8.2.1 q8.2.2.1 q8.2.2.2.1 q8.2.2.2.2.1 q8.2.2.2.2.2.1 q8.2.2.2.2.2.2 (va_up W 1 (upd (upd (upd (upd (upd (W 1) (9 + (8 * (if (nI Ud) < (4 : Int32) then Ud else 0))) (f_Model_kindOf mval)) ((9 + (8 * (if (nI Ud) < (4 : Int32) then Ud else 0))) + 1) q2.1) ((9 + (8 * (if (nI Ud) < (4 : Int32) then Ud else 0))) + 2) q3.1) ((9 + (8 * (if (nI Ud) < (4 : Int32) then Ud else 0))) + 3) q4.1) ((9 + (8 * (if (nI Ud) < (4 : Int32) then Ud else 0))) + 4) q5.1)) past nac imgs kept gvn costs lst sets bst mlo mal mpr lak trc ntr))) (ov_up (6 + 1) (show _ < 19 by omega) ((modL_Wset (by omega)).trans (by rw [bx_uu]; rfl))) ?_
    have hv_b : isV (ov h b (modL b lane many items spare stat tape taped q8.2.1 q8.2.2.1 q8.2.2.2.1 q8.2.2.2.2.1 q8.2.2.2.2.2.1 q8.2.2.2.2.2.2 (va_up W 1 (upd (upd (upd (upd (upd (W 1) (9 + (8 * (if (nI Ud) < (4 : Int32) then Ud else 0))) (f_Model_kindOf mval)) ((9 + (8 * (if (nI Ud) < (4 : Int32) then Ud else 0))) + 1) q2.1) ((9 + (8 * (if (nI Ud) < (4 : Int32) then Ud else 0))) + 2) q3.1) ((9 + (8 * (if (nI Ud) < (4 : Int32) then Ud else 0))) + 3) q4.1) ((9 + (8 * (if (nI Ud) < (4 : Int32) then Ud else 0))) + 4) q5.1)) past nac imgs kept gvn costs lst sets bst mlo mal mpr lak trc ntr)) b (modL b lane many items spare stat tape taped q8.2.1 q8.2.2.1 q8.2.2.2.1 q8.2.2.2.2.1 q8.2.2.2.2.2.1 q8.2.2.2.2.2.2 (va_up W 1 (upd (upd (upd (upd (upd (W 1) (9 + (8 * (if (nI Ud) < (4 : Int32) then Ud else 0))) (f_Model_kindOf mval)) ((9 + (8 * (if (nI Ud) < (4 : Int32) then Ud else 0))) + 1) q2.1) ((9 + (8 * (if (nI Ud) < (4 : Int32) then Ud else 0))) + 2) q3.1) ((9 + (8 * (if (nI Ud) < (4 : Int32) then Ud else 0))) + 3) q4.1) ((9 + (8 * (if (nI Ud) < (4 : Int32) then Ud else 0))) + 4) q5.1)) past nac imgs kept gvn costs lst sets bst mlo mal mpr lak trc ntr) := ov_isV
    refine r_aload_n X 0 dX8_readsUnit_179 rfl ?_
    refine gf_X8_28 X dX8_readsUnit_180 (hv_b 0 _ rfl) rfl ?_
    refine r_iload_n X 2 dX8_readsUnit_183 rfl ?_
    refine r_iconst X (5 : Int32) dX8_readsUnit_184 (by decide) ?_
    refine r_iaddn X (a := 9 + (8 * (if (nI Ud) < (4 : Int32) then Ud else 0))) (b := 5) dX8_readsUnit_185 ?_
    refine r_iload X 7 dX8_readsUnit_186 rfl ?_
    refine r_iastn X (k0 := (9 + (8 * (if (nI Ud) < (4 : Int32) then Ud else 0))) + 5) dX8_readsUnit_188 (hv_b (6 + 1) _ (modL_W (by omega))) (by omega) (by first | decide | omega) ?_
    refine SW.heq (h2 := (ov h b (modL b lane many items spare stat tape taped q8.2.1 q8.2.2.1 q8.2.2.2.1 q8.2.2.2.2.1 q8.2.2.2.2.2.1 q8.2.2.2.2.2.2 (va_up W 1 (upd (upd (upd (upd (upd (upd (W 1) (9 + (8 * (if (nI Ud) < (4 : Int32) then Ud else 0))) (f_Model_kindOf mval)) ((9 + (8 * (if (nI Ud) < (4 : Int32) then Ud else 0))) + 1) q2.1) ((9 + (8 * (if (nI Ud) < (4 : Int32) then Ud else 0))) + 2) q3.1) ((9 + (8 * (if (nI Ud) < (4 : Int32) then Ud else 0))) + 3) q4.1) ((9 + (8 * (if (nI Ud) < (4 : Int32) then Ud else 0))) + 4) q5.1) ((9 + (8 * (if (nI Ud) < (4 : Int32) then Ud else 0))) + 5) q6.1)) past nac imgs kept gvn costs lst sets bst mlo mal mpr lak trc ntr))) (ov_up (6 + 1) (show _ < 19 by omega) ((modL_Wset (by omega)).trans (by rw [bx_uu]; rfl))) ?_
    have hv_b : isV (ov h b (modL b lane many items spare stat tape taped q8.2.1 q8.2.2.1 q8.2.2.2.1 q8.2.2.2.2.1 q8.2.2.2.2.2.1 q8.2.2.2.2.2.2 (va_up W 1 (upd (upd (upd (upd (upd (upd (W 1) (9 + (8 * (if (nI Ud) < (4 : Int32) then Ud else 0))) (f_Model_kindOf mval)) ((9 + (8 * (if (nI Ud) < (4 : Int32) then Ud else 0))) + 1) q2.1) ((9 + (8 * (if (nI Ud) < (4 : Int32) then Ud else 0))) + 2) q3.1) ((9 + (8 * (if (nI Ud) < (4 : Int32) then Ud else 0))) + 3) q4.1) ((9 + (8 * (if (nI Ud) < (4 : Int32) then Ud else 0))) + 4) q5.1) ((9 + (8 * (if (nI Ud) < (4 : Int32) then Ud else 0))) + 5) q6.1)) past nac imgs kept gvn costs lst sets bst mlo mal mpr lak trc ntr)) b (modL b lane many items spare stat tape taped q8.2.1 q8.2.2.1 q8.2.2.2.1 q8.2.2.2.2.1 q8.2.2.2.2.2.1 q8.2.2.2.2.2.2 (va_up W 1 (upd (upd (upd (upd (upd (upd (W 1) (9 + (8 * (if (nI Ud) < (4 : Int32) then Ud else 0))) (f_Model_kindOf mval)) ((9 + (8 * (if (nI Ud) < (4 : Int32) then Ud else 0))) + 1) q2.1) ((9 + (8 * (if (nI Ud) < (4 : Int32) then Ud else 0))) + 2) q3.1) ((9 + (8 * (if (nI Ud) < (4 : Int32) then Ud else 0))) + 3) q4.1) ((9 + (8 * (if (nI Ud) < (4 : Int32) then Ud else 0))) + 4) q5.1) ((9 + (8 * (if (nI Ud) < (4 : Int32) then Ud else 0))) + 5) q6.1)) past nac imgs kept gvn costs lst sets bst mlo mal mpr lak trc ntr) := ov_isV
    refine r_aload_n X 0 dX8_readsUnit_189 rfl ?_
    refine gf_X8_28 X dX8_readsUnit_190 (hv_b 0 _ rfl) rfl ?_
    refine r_iload_n X 2 dX8_readsUnit_193 rfl ?_
    refine r_bipush X (6 : Int32) dX8_readsUnit_194 (by decide) ?_
    refine r_iaddn X (a := 9 + (8 * (if (nI Ud) < (4 : Int32) then Ud else 0))) (b := 6) dX8_readsUnit_196 ?_
    refine r_iload X 8 dX8_readsUnit_197 rfl ?_
    refine r_iastn X (k0 := (9 + (8 * (if (nI Ud) < (4 : Int32) then Ud else 0))) + 6) dX8_readsUnit_199 (hv_b (6 + 1) _ (modL_W (by omega))) (by omega) (by first | decide | omega) ?_
    refine SW.heq (h2 := (ov h b (modL b lane many items spare stat tape taped q8.2.1 q8.2.2.1 q8.2.2.2.1 q8.2.2.2.2.1 q8.2.2.2.2.2.1 q8.2.2.2.2.2.2 (va_up W 1 (upd (upd (upd (upd (upd (upd (upd (W 1) (9 + (8 * (if (nI Ud) < (4 : Int32) then Ud else 0))) (f_Model_kindOf mval)) ((9 + (8 * (if (nI Ud) < (4 : Int32) then Ud else 0))) + 1) q2.1) ((9 + (8 * (if (nI Ud) < (4 : Int32) then Ud else 0))) + 2) q3.1) ((9 + (8 * (if (nI Ud) < (4 : Int32) then Ud else 0))) + 3) q4.1) ((9 + (8 * (if (nI Ud) < (4 : Int32) then Ud else 0))) + 4) q5.1) ((9 + (8 * (if (nI Ud) < (4 : Int32) then Ud else 0))) + 5) q6.1) ((9 + (8 * (if (nI Ud) < (4 : Int32) then Ud else 0))) + 6) q7.1)) past nac imgs kept gvn costs lst sets bst mlo mal mpr lak trc ntr))) (ov_up (6 + 1) (show _ < 19 by omega) ((modL_Wset (by omega)).trans (by rw [bx_uu]; rfl))) ?_
    have hv_b : isV (ov h b (modL b lane many items spare stat tape taped q8.2.1 q8.2.2.1 q8.2.2.2.1 q8.2.2.2.2.1 q8.2.2.2.2.2.1 q8.2.2.2.2.2.2 (va_up W 1 (upd (upd (upd (upd (upd (upd (upd (W 1) (9 + (8 * (if (nI Ud) < (4 : Int32) then Ud else 0))) (f_Model_kindOf mval)) ((9 + (8 * (if (nI Ud) < (4 : Int32) then Ud else 0))) + 1) q2.1) ((9 + (8 * (if (nI Ud) < (4 : Int32) then Ud else 0))) + 2) q3.1) ((9 + (8 * (if (nI Ud) < (4 : Int32) then Ud else 0))) + 3) q4.1) ((9 + (8 * (if (nI Ud) < (4 : Int32) then Ud else 0))) + 4) q5.1) ((9 + (8 * (if (nI Ud) < (4 : Int32) then Ud else 0))) + 5) q6.1) ((9 + (8 * (if (nI Ud) < (4 : Int32) then Ud else 0))) + 6) q7.1)) past nac imgs kept gvn costs lst sets bst mlo mal mpr lak trc ntr)) b (modL b lane many items spare stat tape taped q8.2.1 q8.2.2.1 q8.2.2.2.1 q8.2.2.2.2.1 q8.2.2.2.2.2.1 q8.2.2.2.2.2.2 (va_up W 1 (upd (upd (upd (upd (upd (upd (upd (W 1) (9 + (8 * (if (nI Ud) < (4 : Int32) then Ud else 0))) (f_Model_kindOf mval)) ((9 + (8 * (if (nI Ud) < (4 : Int32) then Ud else 0))) + 1) q2.1) ((9 + (8 * (if (nI Ud) < (4 : Int32) then Ud else 0))) + 2) q3.1) ((9 + (8 * (if (nI Ud) < (4 : Int32) then Ud else 0))) + 3) q4.1) ((9 + (8 * (if (nI Ud) < (4 : Int32) then Ud else 0))) + 4) q5.1) ((9 + (8 * (if (nI Ud) < (4 : Int32) then Ud else 0))) + 5) q6.1) ((9 + (8 * (if (nI Ud) < (4 : Int32) then Ud else 0))) + 6) q7.1)) past nac imgs kept gvn costs lst sets bst mlo mal mpr lak trc ntr) := ov_isV
    refine r_aload_n X 0 dX8_readsUnit_200 rfl ?_
    refine gf_X8_28 X dX8_readsUnit_201 (hv_b 0 _ rfl) rfl ?_
    refine r_iload_n X 2 dX8_readsUnit_204 rfl ?_
    refine r_bipush X (7 : Int32) dX8_readsUnit_205 (by decide) ?_
    refine r_iaddn X (a := 9 + (8 * (if (nI Ud) < (4 : Int32) then Ud else 0))) (b := 7) dX8_readsUnit_207 ?_
    refine r_iconst X (0 : Int32) dX8_readsUnit_208 (by decide) ?_
    refine r_iastn X (k0 := (9 + (8 * (if (nI Ud) < (4 : Int32) then Ud else 0))) + 7) dX8_readsUnit_209 (hv_b (6 + 1) _ (modL_W (by omega))) (by omega) (by first | decide | omega) ?_
    refine SW.heq (h2 := (ov h b (modL b lane many items spare stat tape taped q8.2.1 q8.2.2.1 q8.2.2.2.1 q8.2.2.2.2.1 q8.2.2.2.2.2.1 q8.2.2.2.2.2.2 (va_up W 1 (upd (upd (upd (upd (upd (upd (upd (upd (W 1) (9 + (8 * (if (nI Ud) < (4 : Int32) then Ud else 0))) (f_Model_kindOf mval)) ((9 + (8 * (if (nI Ud) < (4 : Int32) then Ud else 0))) + 1) q2.1) ((9 + (8 * (if (nI Ud) < (4 : Int32) then Ud else 0))) + 2) q3.1) ((9 + (8 * (if (nI Ud) < (4 : Int32) then Ud else 0))) + 3) q4.1) ((9 + (8 * (if (nI Ud) < (4 : Int32) then Ud else 0))) + 4) q5.1) ((9 + (8 * (if (nI Ud) < (4 : Int32) then Ud else 0))) + 5) q6.1) ((9 + (8 * (if (nI Ud) < (4 : Int32) then Ud else 0))) + 6) q7.1) ((9 + (8 * (if (nI Ud) < (4 : Int32) then Ud else 0))) + 7) (0 : Int32))) past nac imgs kept gvn costs lst sets bst mlo mal mpr lak trc ntr))) (ov_up (6 + 1) (show _ < 19 by omega) ((modL_Wset (by omega)).trans (by rw [bx_uu]; rfl))) ?_
    have hv_b : isV (ov h b (modL b lane many items spare stat tape taped q8.2.1 q8.2.2.1 q8.2.2.2.1 q8.2.2.2.2.1 q8.2.2.2.2.2.1 q8.2.2.2.2.2.2 (va_up W 1 (upd (upd (upd (upd (upd (upd (upd (upd (W 1) (9 + (8 * (if (nI Ud) < (4 : Int32) then Ud else 0))) (f_Model_kindOf mval)) ((9 + (8 * (if (nI Ud) < (4 : Int32) then Ud else 0))) + 1) q2.1) ((9 + (8 * (if (nI Ud) < (4 : Int32) then Ud else 0))) + 2) q3.1) ((9 + (8 * (if (nI Ud) < (4 : Int32) then Ud else 0))) + 3) q4.1) ((9 + (8 * (if (nI Ud) < (4 : Int32) then Ud else 0))) + 4) q5.1) ((9 + (8 * (if (nI Ud) < (4 : Int32) then Ud else 0))) + 5) q6.1) ((9 + (8 * (if (nI Ud) < (4 : Int32) then Ud else 0))) + 6) q7.1) ((9 + (8 * (if (nI Ud) < (4 : Int32) then Ud else 0))) + 7) (0 : Int32))) past nac imgs kept gvn costs lst sets bst mlo mal mpr lak trc ntr)) b (modL b lane many items spare stat tape taped q8.2.1 q8.2.2.1 q8.2.2.2.1 q8.2.2.2.2.1 q8.2.2.2.2.2.1 q8.2.2.2.2.2.2 (va_up W 1 (upd (upd (upd (upd (upd (upd (upd (upd (W 1) (9 + (8 * (if (nI Ud) < (4 : Int32) then Ud else 0))) (f_Model_kindOf mval)) ((9 + (8 * (if (nI Ud) < (4 : Int32) then Ud else 0))) + 1) q2.1) ((9 + (8 * (if (nI Ud) < (4 : Int32) then Ud else 0))) + 2) q3.1) ((9 + (8 * (if (nI Ud) < (4 : Int32) then Ud else 0))) + 3) q4.1) ((9 + (8 * (if (nI Ud) < (4 : Int32) then Ud else 0))) + 4) q5.1) ((9 + (8 * (if (nI Ud) < (4 : Int32) then Ud else 0))) + 5) q6.1) ((9 + (8 * (if (nI Ud) < (4 : Int32) then Ud else 0))) + 6) q7.1) ((9 + (8 * (if (nI Ud) < (4 : Int32) then Ud else 0))) + 7) (0 : Int32))) past nac imgs kept gvn costs lst sets bst mlo mal mpr lak trc ntr) := ov_isV
    refine r_aload_n X 0 dX8_readsUnit_210 rfl ?_
    refine gf_X8_28 X dX8_readsUnit_211 (hv_b 0 _ rfl) rfl ?_
    refine r_iconst X (0 : Int32) dX8_readsUnit_214 (by decide) ?_
    refine r_dup2 X dX8_readsUnit_215 rfl rfl ?_
    refine r_ialdv X (v := nI Ud) (k0 := 0) dX8_readsUnit_216 (hv_b (6 + 1) _ (modL_W (by omega))) (by omega) (by decide) (by rw [vu_self, pk_un (by omega), pk_un (by omega), pk_un (by omega), pk_un (by omega), pk_un (by omega), pk_un (by omega), pk_un (by omega), pk_un (by omega)]; exact hd0) ?_
    refine r_iconst X (1 : Int32) dX8_readsUnit_217 (by decide) ?_
    refine r_iaddn X (a := Ud) (b := 1) dX8_readsUnit_218 ?_
    refine r_iastn X (k0 := 0) dX8_readsUnit_219 (hv_b (6 + 1) _ (modL_W (by omega))) (by omega) (by first | decide | omega) ?_
    refine SW.heq (h2 := (ov h b (modL b lane many items spare stat tape taped q8.2.1 q8.2.2.1 q8.2.2.2.1 q8.2.2.2.2.1 q8.2.2.2.2.2.1 q8.2.2.2.2.2.2 (va_up W 1 (upd (upd (upd (upd (upd (upd (upd (upd (upd (W 1) (9 + (8 * (if (nI Ud) < (4 : Int32) then Ud else 0))) (f_Model_kindOf mval)) ((9 + (8 * (if (nI Ud) < (4 : Int32) then Ud else 0))) + 1) q2.1) ((9 + (8 * (if (nI Ud) < (4 : Int32) then Ud else 0))) + 2) q3.1) ((9 + (8 * (if (nI Ud) < (4 : Int32) then Ud else 0))) + 3) q4.1) ((9 + (8 * (if (nI Ud) < (4 : Int32) then Ud else 0))) + 4) q5.1) ((9 + (8 * (if (nI Ud) < (4 : Int32) then Ud else 0))) + 5) q6.1) ((9 + (8 * (if (nI Ud) < (4 : Int32) then Ud else 0))) + 6) q7.1) ((9 + (8 * (if (nI Ud) < (4 : Int32) then Ud else 0))) + 7) (0 : Int32)) 0 (nI (Ud + 1)))) past nac imgs kept gvn costs lst sets bst mlo mal mpr lak trc ntr))) (ov_up (6 + 1) (show _ < 19 by omega) ((modL_Wset (by omega)).trans (by rw [bx_uu]; rfl))) ?_
    have hv_b : isV (ov h b (modL b lane many items spare stat tape taped q8.2.1 q8.2.2.1 q8.2.2.2.1 q8.2.2.2.2.1 q8.2.2.2.2.2.1 q8.2.2.2.2.2.2 (va_up W 1 (upd (upd (upd (upd (upd (upd (upd (upd (upd (W 1) (9 + (8 * (if (nI Ud) < (4 : Int32) then Ud else 0))) (f_Model_kindOf mval)) ((9 + (8 * (if (nI Ud) < (4 : Int32) then Ud else 0))) + 1) q2.1) ((9 + (8 * (if (nI Ud) < (4 : Int32) then Ud else 0))) + 2) q3.1) ((9 + (8 * (if (nI Ud) < (4 : Int32) then Ud else 0))) + 3) q4.1) ((9 + (8 * (if (nI Ud) < (4 : Int32) then Ud else 0))) + 4) q5.1) ((9 + (8 * (if (nI Ud) < (4 : Int32) then Ud else 0))) + 5) q6.1) ((9 + (8 * (if (nI Ud) < (4 : Int32) then Ud else 0))) + 6) q7.1) ((9 + (8 * (if (nI Ud) < (4 : Int32) then Ud else 0))) + 7) (0 : Int32)) 0 (nI (Ud + 1)))) past nac imgs kept gvn costs lst sets bst mlo mal mpr lak trc ntr)) b (modL b lane many items spare stat tape taped q8.2.1 q8.2.2.1 q8.2.2.2.1 q8.2.2.2.2.1 q8.2.2.2.2.2.1 q8.2.2.2.2.2.2 (va_up W 1 (upd (upd (upd (upd (upd (upd (upd (upd (upd (W 1) (9 + (8 * (if (nI Ud) < (4 : Int32) then Ud else 0))) (f_Model_kindOf mval)) ((9 + (8 * (if (nI Ud) < (4 : Int32) then Ud else 0))) + 1) q2.1) ((9 + (8 * (if (nI Ud) < (4 : Int32) then Ud else 0))) + 2) q3.1) ((9 + (8 * (if (nI Ud) < (4 : Int32) then Ud else 0))) + 3) q4.1) ((9 + (8 * (if (nI Ud) < (4 : Int32) then Ud else 0))) + 4) q5.1) ((9 + (8 * (if (nI Ud) < (4 : Int32) then Ud else 0))) + 5) q6.1) ((9 + (8 * (if (nI Ud) < (4 : Int32) then Ud else 0))) + 6) q7.1) ((9 + (8 * (if (nI Ud) < (4 : Int32) then Ud else 0))) + 7) (0 : Int32)) 0 (nI (Ud + 1)))) past nac imgs kept gvn costs lst sets bst mlo mal mpr lak trc ntr) := ov_isV
    try subst hf
    exact r_return X Y dX8_readsUnit_220 rfl rfl
