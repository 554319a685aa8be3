theorem clamp_eq {N : Nat} {x : Int32} (hN : N < 2 ^ 31) (h : ∃ n, n ≤ N ∧ x = nI n) : x = nI x.toNatClampNeg := by
  obtain ⟨n, hn, rfl⟩ := h
  rw [nI_clamp (by omega)]
theorem clamp_le {N : Nat} {x : Int32} (hN : N < 2 ^ 31) (h : ∃ n, n ≤ N ∧ x = nI n) : x.toNatClampNeg ≤ N := by
  obtain ⟨n, hn, rfl⟩ := h
  rw [nI_clamp (by omega)]; exact hn
theorem psH_inv {taped N i : Nat} {C : Prop} {W : Nat → Nat → Int32} {r : Int32 × Int32 × Nat × Nat × Int32 × Int32 × (Nat → Nat → Int32)} (hN : N < 2 ^ 30) (hC : C → (W 1 i).toNatClampNeg < N) (hw : ∃ n, n ≤ N ∧ W 1 i = nI n) (h : psH taped C W i ((W 1 i).toNatClampNeg + 1) r) : ∃ n, n ≤ N ∧ r.2.2.2.2.2.2 1 i = nI n := by
  by_cases c : f_Model_isWell r.2.1 = 0
  · rw [h.2.2.1 c]; exact hw
  · have := h.2.1 c
    exact ⟨_, hC this.1, this.2⟩
theorem psH_mu {taped N i : Nat} {C : Prop} {W : Nat → Nat → Int32} {fp : Int32} {r : Int32 × Int32 × Nat × Nat × Int32 × Int32 × (Nat → Nat → Int32)} (hN : N < 2 ^ 30) (hC : C → (W 1 i).toNatClampNeg < N) (cw : ¬ f_Model_isWell fp = 0) (hw : ∃ n, n ≤ N ∧ W 1 i = nI n) (h : psH taped C W i ((W 1 i).toNatClampNeg + 1) r) : (if f_Model_isWell r.2.1 = 0 then 0 else N + 1 - (r.2.2.2.2.2.2 1 i).toNatClampNeg) < (if f_Model_isWell fp = 0 then 0 else N + 1 - (W 1 i).toNatClampNeg) := by
  have hl := clamp_le (by omega) hw
  rw [if_neg cw]
  by_cases c : f_Model_isWell r.2.1 = 0
  · rw [if_pos c]; omega
  · rw [if_neg c]
    have := h.2.1 c
    have hc := hC this.1
    rw [this.2, nI_clamp (by omega)]
    omega
theorem mu_le {p : Prop} [Decidable p] {a N : Nat} (h : a < N) : (if p then 0 else a) < N := by
  split <;> omega
theorem nlt_nat {x : Int32} {N : Nat} (hN : N < 2 ^ 31) (hx : ∃ n, n ≤ N ∧ x = nI n) {M : Nat} (hM : M < 2 ^ 31) (h : nI x.toNatClampNeg < nI M) : x.toNatClampNeg < M := nI_ltX h (by have := clamp_le hN hx; omega) hM

theorem must_J {tape : Nat → Int32} {taped : Nat} {fk fp : Int32} {mat mst : Nat} {tok mval : Int32} {z : Int32} (ht : taped ≤ 120) (h : mat ≤ taped) (hs : mst ≤ taped) : (f_Model_must tape taped fk fp mat mst tok mval z).2.2.2.1 ≤ taped := by
  unfold f_Model_must
  by_cases c : f_Model_isWell fp = 0
  · rw [if_pos c]; exact hs
  · rw [if_neg c]
    by_cases d : z = 0
    · rw [if_pos d]
      have t := takes_J (fk := fk) (fp := fp) (tok := tok) (mval := mval) (tape := tape) (z := 0) (kd := 1) ht h hs
      exact t.1.2
    · rw [if_neg d]; exact hs

def f_Model_day_L2s  (k2 : Nat) (W : Nat → Nat → Int32) : (Nat → Nat → Int32) := va_up W 1 (upd (W 1) k2 (0 : Int32))
def f_Model_day_L2  (W : Nat → Nat → Int32) : Nat → (Nat → Nat → Int32)
  | 0 => W
  | k2 + 1 => f_Model_day_L2s  k2 (f_Model_day_L2  W k2)
def f_Model_day_L95 (tape : Nat → Int32) (taped : Nat) : Nat → Int32 → Int32 → Nat → Nat → Int32 → Int32 → (Nat → Nat → Int32) → Int32 × Int32 × Nat × Nat × Int32 × Int32 × (Nat → Nat → Int32)
  | 0, fkv, fpv, matv, mstv, tokv, mvalv, Wv => (fkv, fpv, matv, mstv, tokv, mvalv, Wv)
  | n + 1, fkv, fpv, matv, mstv, tokv, mvalv, Wv => (if (f_Model_isWell fpv) = (0 : Int32) then (fkv, fpv, matv, mstv, tokv, mvalv, Wv) else (if tokv = (1 : Int32) then (if mvalv = (104 : Int32) then (lt_ (f_Model_readsHour tape taped fkv fpv matv mstv tokv mvalv Wv (((Wv 1) 1).toNatClampNeg)) (fun q5 => f_Model_day_L95 tape taped n q5.1 q5.2.1 q5.2.2.1 q5.2.2.2.1 q5.2.2.2.2.1 q5.2.2.2.2.2.1 q5.2.2.2.2.2.2)) else (fkv, fpv, matv, mstv, tokv, mvalv, Wv)) else (fkv, fpv, matv, mstv, tokv, mvalv, Wv)))
def f_Model_day_L144 (tape : Nat → Int32) (taped : Nat) : Nat → Int32 → Int32 → Nat → Nat → Int32 → Int32 → (Nat → Nat → Int32) → Int32 × Int32 × Nat × Nat × Int32 × Int32 × (Nat → Nat → Int32)
  | 0, fkv, fpv, matv, mstv, tokv, mvalv, Wv => (fkv, fpv, matv, mstv, tokv, mvalv, Wv)
  | n + 1, fkv, fpv, matv, mstv, tokv, mvalv, Wv => (if (f_Model_isWell fpv) = (0 : Int32) then (fkv, fpv, matv, mstv, tokv, mvalv, Wv) else (if tokv = (1 : Int32) then (if (0 : Int32) < (f_Model_kindOf mvalv) then (lt_ (f_Model_readsUnit tape taped fkv fpv matv mstv tokv mvalv Wv (((Wv 1) 0).toNatClampNeg)) (fun q9 => f_Model_day_L144 tape taped n q9.1 q9.2.1 q9.2.2.1 q9.2.2.2.1 q9.2.2.2.2.1 q9.2.2.2.2.2.1 q9.2.2.2.2.2.2)) else (fkv, fpv, matv, mstv, tokv, mvalv, Wv)) else (fkv, fpv, matv, mstv, tokv, mvalv, Wv)))
theorem day_z {W : Nat → Nat → Int32} : ∀ k j, j < k → f_Model_day_L2 W k 1 j = 0 := by
  intro k
  induction k with
  | zero => intro j h; exact absurd h (Nat.not_lt_zero _)
  | succ k ih =>
    intro j hj
    show va_up (f_Model_day_L2 W k) 1 (upd (f_Model_day_L2 W k 1) k 0) 1 j = 0
    rw [vu_self]
    by_cases q : j = k
    · subst q; exact pk_us
    · rw [pk_un q]; exact ih j (by omega)
def f_Model_day (tape : Nat → Int32) (taped : Nat) (fk : Int32) (W : Nat → Nat → Int32) (nac : Nat) : Int32 × Nat × Int32 × Int32 × Nat × Nat × Int32 × Int32 × (Nat → Nat → Int32) × Nat := (lt_ (f_Model_advances tape taped 0) (fun q1 => (lt_ (f_Model_takes tape taped fk (-1 : Int32) q1.1 q1.2.1 q1.2.2.1 q1.2.2.2 (if q1.2.2.1 = (1 : Int32) then if q1.2.2.2 = (118 : Int32) then (1 : Int32) else (0 : Int32) else (0 : Int32)) (1 : Int32)) (fun q2 => (lt_ (f_Model_figure tape taped q2.2.1 q2.2.2.1 q2.2.2.2.1 q2.2.2.2.2.1 q2.2.2.2.2.2.1 q2.2.2.2.2.2.2 (0 : Int32) (20 : Int32)) (fun q3 => (lt_ (f_Model_takes tape taped q3.2.1 q3.2.2.1 q3.2.2.2.1 q3.2.2.2.2.1 q3.2.2.2.2.2.1 q3.2.2.2.2.2.2 (if q3.2.2.2.2.2.1 = (4 : Int32) then (1 : Int32) else (0 : Int32)) (1 : Int32)) (fun q4 => (lt_ (f_Model_day_L95 tape taped 8 q4.2.1 q4.2.2.1 q4.2.2.2.1 q4.2.2.2.2.1 q4.2.2.2.2.2.1 q4.2.2.2.2.2.2 (va_up (f_Model_day_L2  W 41) 1 (upd ((f_Model_day_L2  W 41) 1) 2 q3.1))) (fun q7 => (lt_ (f_Model_must tape taped q7.1 q7.2.1 q7.2.2.1 q7.2.2.2.1 q7.2.2.2.2.1 q7.2.2.2.2.2.1 (if (0 : Int32) < ((q7.2.2.2.2.2.2 1) 1) then (1 : Int32) else (0 : Int32))) (fun q8 => (lt_ (f_Model_day_L144 tape taped 6 q8.1 q8.2.1 q8.2.2.1 q8.2.2.2.1 q8.2.2.2.2.1 q8.2.2.2.2.2 q7.2.2.2.2.2.2) (fun q11 => (lt_ (f_Model_must tape taped q11.1 q11.2.1 q11.2.2.1 q11.2.2.2.1 q11.2.2.2.2.1 q11.2.2.2.2.2.1 (if (0 : Int32) < ((q11.2.2.2.2.2.2 1) 0) then if q11.2.2.2.2.1 = (0 : Int32) then (1 : Int32) else (0 : Int32) else (0 : Int32))) (fun q12 => (if (f_Model_isWell q12.2.1) = (0 : Int32) then ((-1000100 : Int32) - q12.2.1, 0, q12.1, q12.2.1, q12.2.2.1, q12.2.2.2.1, q12.2.2.2.2.1, q12.2.2.2.2.2, q11.2.2.2.2.2.2, nac) else ((f_copies (q11.2.2.2.2.2.2 1) (q11.2.2.2.2.2.2 0) 0 0) 0, 0, q12.1, q12.2.1, q12.2.2.1, q12.2.2.2.1, q12.2.2.2.2.1, q12.2.2.2.2.2, va_up q11.2.2.2.2.2.2 0 (f_copies (q11.2.2.2.2.2.2 1) (q11.2.2.2.2.2.2 0) 0 0), 0))))))))))))))))))
set_option maxRecDepth 20000 in
set_option maxHeartbeats 4000000 in
theorem c_Model_day {G : mG} {h : mHp} {b : Nat} {lane : Nat → Int32} {many : Nat → Nat} {items : Nat → Int32} {spare : Nat → Int32} {stat : Int32} {tape : Nat → Int32} {taped : Nat} {fk : Int32} {fp : Int32} {mat : Nat} {mst : Nat} {tok : Int32} {mval : Int32} {W : Nat → Nat → Int32} {past : Nat → Int32} {nac : Nat} {imgs : Nat → Int32} {kept : Nat → Int32} {gvn : Nat → Int32} {costs : Nat → Int32} {lst : Nat → Int32} {sets : Nat → Int32} {bst : Int32} {mlo : Int64} {mal : Int32} {mpr : Nat → Int64} {lak : Nat → Int64} {trc : Nat → Int32} {ntr : Nat}   (ht : taped ≤ 120) : Ret G 6 mX8_day [.ref b] (ov h b (modL b lane many items spare stat tape taped fk fp mat mst tok mval W past nac imgs kept gvn costs lst sets bst mlo mal mpr lak trc ntr)) (some (.int (f_Model_day tape taped fk W nac).1)) (ov h b (modL b lane many items spare stat tape (f_Model_day tape taped fk W nac).2.1 (f_Model_day tape taped fk W nac).2.2.1 (f_Model_day tape taped fk W nac).2.2.2.1 (f_Model_day tape taped fk W nac).2.2.2.2.1 (f_Model_day tape taped fk W nac).2.2.2.2.2.1 (f_Model_day tape taped fk W nac).2.2.2.2.2.2.1 (f_Model_day tape taped fk W nac).2.2.2.2.2.2.2.1 (f_Model_day tape taped fk W nac).2.2.2.2.2.2.2.2.1 past (f_Model_day tape taped fk W nac).2.2.2.2.2.2.2.2.2 imgs kept gvn costs lst sets bst mlo mal mpr lak trc ntr)) := by
  generalize hf : f_Model_day tape taped fk W nac = R
  unfold f_Model_day at hf
  refine Ret.of [(0, .ref b)] (by decide) (Nat.le_of_ble_eq_true rfl) rfl ?_
  rintro Z rfl X Y
  have hv_b : isV (ov h b (modL b lane many items spare stat tape taped fk fp mat mst tok mval W past nac imgs kept gvn costs lst sets bst mlo mal mpr lak trc ntr)) b (modL b lane many items spare stat tape taped fk fp mat mst tok mval W past nac imgs kept gvn costs lst sets bst mlo mal mpr lak trc ntr) := ov_isV
  refine r_iconst X (0 : Int32) dX8_day_0 (by decide) ?_
  refine r_istore_n [(0, .ref b), (1, .int (0 : Int32))] X dX8_day_1 rfl (by decide) rfl ?_
  refine loop_up (P := fun k1 => SW Z 2 [(0, .ref b), (1, .int (nI k1))] [] (ov h b (modL b lane many items spare stat tape taped fk fp mat mst tok mval (f_Model_day_L2  W k1) past nac imgs kept gvn costs lst sets bst mlo mal mpr lak trc ntr))) 41 ?_ ?_ 0 (Nat.zero_le _)
  rotate_left
  · intro k1 hk1 ih
    have hv_b : isV (ov h b (modL b lane many items spare stat tape taped fk fp mat mst tok mval (f_Model_day_L2  W k1) past nac imgs kept gvn costs lst sets bst mlo mal mpr lak trc ntr)) b (modL b lane many items spare stat tape taped fk fp mat mst tok mval (f_Model_day_L2  W k1) past nac imgs kept gvn costs lst sets bst mlo mal mpr lak trc ntr) := ov_isV
    refine r_iload_n X 1 dX8_day_2 rfl ?_
    refine r_bipush X (41 : Int32) dX8_day_3 (by decide) ?_
    refine r_icmp_ge X 21 dX8_day_5 rfl (fun z => absurd (nI_lt (a := k1) (b := 41) (by omega) (by omega)) z) (fun _ => ?_)
    refine r_aload_n X 0 dX8_day_8 rfl ?_
    refine gf_X8_28 X dX8_day_9 (hv_b 0 _ rfl) rfl ?_
    refine r_iload_n X 1 dX8_day_12 rfl ?_
    refine r_iconst X (0 : Int32) dX8_day_13 (by decide) ?_
    refine r_iastn X (k0 := k1) dX8_day_14 (hv_b (6 + 1) _ (modL_W (by omega))) (by omega) (by first | decide | omega) ?_
    refine SW.heq (h2 := (ov h b (modL b lane many items spare stat tape taped fk fp mat mst tok mval (va_up (f_Model_day_L2  W k1) 1 (upd ((f_Model_day_L2  W k1) 1) k1 (0 : Int32))) past nac imgs kept gvn costs lst sets bst mlo mal mpr lak trc ntr))) (ov_up (6 + 1) (show _ < 19 by omega) (modL_Wset (by omega))) ?_
    have hv_b : isV (ov h b (modL b lane many items spare stat tape taped fk fp mat mst tok mval (va_up (f_Model_day_L2  W k1) 1 (upd ((f_Model_day_L2  W k1) 1) k1 (0 : Int32))) past nac imgs kept gvn costs lst sets bst mlo mal mpr lak trc ntr)) b (modL b lane many items spare stat tape taped fk fp mat mst tok mval (va_up (f_Model_day_L2  W k1) 1 (upd ((f_Model_day_L2  W k1) 1) k1 (0 : Int32))) past nac imgs kept gvn costs lst sets bst mlo mal mpr lak trc ntr) := ov_isV
    refine r_iinc [(0, .ref b), (1, .int (nI (k1 + 1)))] X (nI (k1 + 1)) 1 dX8_day_15 rfl (nI_succ _).symm (by decide) rfl ?_
    refine r_goto X 2 dX8_day_18 rfl ?_
    exact ih
  have hv_b : isV (ov h b (modL b lane many items spare stat tape taped fk fp mat mst tok mval (f_Model_day_L2  W 41) past nac imgs kept gvn costs lst sets bst mlo mal mpr lak trc ntr)) b (modL b lane many items spare stat tape taped fk fp mat mst tok mval (f_Model_day_L2  W 41) past nac imgs kept gvn costs lst sets bst mlo mal mpr lak trc ntr) := ov_isV
  refine r_iload_n X 1 dX8_day_2 rfl ?_
  refine r_bipush X (41 : Int32) dX8_day_3 (by decide) ?_
  refine r_icmp_ge X 21 dX8_day_5 rfl (fun _ => ?_) (fun z => absurd z (nI_nlt (a := 41) (b := 41) (by omega) (by omega)))
  refine r_aload_n X 0 dX8_day_21 rfl ?_
  refine r_iconst X (0 : Int32) dX8_day_22 (by decide) ?_
  refine pf_X8_102 X dX8_day_23 (hv_b 0 _ rfl) (Nat.le_of_ble_eq_true rfl) ?_
  refine SW.heq (h2 := (ov h b (modL b lane many items spare stat tape taped fk fp 0 mst tok mval (f_Model_day_L2  W 41) past nac imgs kept gvn costs lst sets bst mlo mal mpr lak trc ntr))) (ov_up 0 (Nat.le_of_ble_eq_true rfl) rfl) ?_
  have hv_b : isV (ov h b (modL b lane many items spare stat tape taped fk fp 0 mst tok mval (f_Model_day_L2  W 41) past nac imgs kept gvn costs lst sets bst mlo mal mpr lak trc ntr)) b (modL b lane many items spare stat tape taped fk fp 0 mst tok mval (f_Model_day_L2  W 41) past nac imgs kept gvn costs lst sets bst mlo mal mpr lak trc ntr) := ov_isV
  refine r_aload_n X 0 dX8_day_26 rfl ?_
  refine r_iconst X (-1 : Int32) dX8_day_27 (by decide) ?_
  refine pf_X8_117 X dX8_day_28 (hv_b 0 _ rfl) (Nat.le_of_ble_eq_true rfl) ?_
  refine SW.heq (h2 := (ov h b (modL b lane many items spare stat tape taped fk (-1 : Int32) 0 mst tok mval (f_Model_day_L2  W 41) past nac imgs kept gvn costs lst sets bst mlo mal mpr lak trc ntr))) (ov_up 0 (Nat.le_of_ble_eq_true rfl) rfl) ?_
  have hv_b : isV (ov h b (modL b lane many items spare stat tape taped fk (-1 : Int32) 0 mst tok mval (f_Model_day_L2  W 41) past nac imgs kept gvn costs lst sets bst mlo mal mpr lak trc ntr)) b (modL b lane many items spare stat tape taped fk (-1 : Int32) 0 mst tok mval (f_Model_day_L2  W 41) past nac imgs kept gvn costs lst sets bst mlo mal mpr lak trc ntr) := ov_isV
  refine r_aload_n X 0 dX8_day_31 rfl ?_
  refine cl_X8_127 X (by decide) dX8_day_32 (Nat.le_of_ble_eq_true rfl) (hv_b 0 _ rfl) (c_Model_advances  (by first | assumption | omega) (by first | assumption | omega)) ?_
  obtain ⟨q1, eq1⟩ : ∃ q, q = f_Model_advances tape taped 0 := ⟨_, rfl⟩
  rw [← eq1]
  rw [← eq1] at hf
  rw [lt_eq] at hf
  have hma_q1 : q1.1 ≤ taped := by rw [eq1]; exact advances_post (by assumption) (by omega)
  have hms_q1 : q1.2.1 ≤ taped := by rw [eq1]; exact (by rw [advances_mst]; omega)
  have hv_b : isV (ov h b (modL b lane many items spare stat tape taped fk (-1 : Int32) q1.1 q1.2.1 q1.2.2.1 q1.2.2.2 (f_Model_day_L2  W 41) past nac imgs kept gvn costs lst sets bst mlo mal mpr lak trc ntr)) b (modL b lane many items spare stat tape taped fk (-1 : Int32) q1.1 q1.2.1 q1.2.2.1 q1.2.2.2 (f_Model_day_L2  W 41) past nac imgs kept gvn costs lst sets bst mlo mal mpr lak trc ntr) := ov_isV
  refine r_aload_n X 0 dX8_day_35 rfl ?_
  refine r_aload_n X 0 dX8_day_36 rfl ?_
  refine gf_X8_114 X dX8_day_37 (hv_b 0 _ rfl) rfl ?_
  refine r_iconst X (1 : Int32) dX8_day_40 (by decide) ?_
  refine m_join (P := SW Z 58 [(0, .ref b)] [.int (if q1.2.2.1 = (1 : Int32) then if q1.2.2.2 = (118 : Int32) then (1 : Int32) else (0 : Int32) else (0 : Int32)), .ref b] (ov h b (modL b lane many items spare stat tape taped fk (-1 : Int32) q1.1 q1.2.1 q1.2.2.1 q1.2.2.2 (f_Model_day_L2  W 41) past nac imgs kept gvn costs lst sets bst mlo mal mpr lak trc ntr))) (fun K => ?_) ?_
  · refine r_icmp_ne X 57 dX8_day_41 rfl (fun c2 => ?_) (fun c2 => ?_)
    · skip
      refine r_iconst X (0 : Int32) dX8_day_57 (by decide) ?_
      refine SW.pick [0] [(0, .ref b)] rfl ?_
      try simp only [if_neg c2] at K ⊢
      exact K
    · skip
      refine r_aload_n X 0 dX8_day_44 rfl ?_
      refine gf_X8_111 X dX8_day_45 (hv_b 0 _ rfl) rfl ?_
      refine r_bipush X (118 : Int32) dX8_day_48 (by decide) ?_
      refine m_join (P := SW Z 58 [(0, .ref b)] [.int (if q1.2.2.2 = (118 : Int32) then (1 : Int32) else (0 : Int32)), .ref b] (ov h b (modL b lane many items spare stat tape taped fk (-1 : Int32) q1.1 q1.2.1 q1.2.2.1 q1.2.2.2 (f_Model_day_L2  W 41) past nac imgs kept gvn costs lst sets bst mlo mal mpr lak trc ntr))) (fun K => ?_) ?_
      · refine r_icmp_ne X 57 dX8_day_50 rfl (fun c3 => ?_) (fun c3 => ?_)
        · skip
          refine r_iconst X (0 : Int32) dX8_day_57 (by decide) ?_
          refine SW.pick [0] [(0, .ref b)] rfl ?_
          try simp only [if_neg c3] at K ⊢
          exact K
        · skip
          refine r_iconst X (1 : Int32) dX8_day_53 (by decide) ?_
          refine r_goto X 58 dX8_day_54 rfl ?_
          refine SW.pick [0] [(0, .ref b)] rfl ?_
          try simp only [if_pos c3] at K ⊢
          exact K
      have hv_b : isV (ov h b (modL b lane many items spare stat tape taped fk (-1 : Int32) q1.1 q1.2.1 q1.2.2.1 q1.2.2.2 (f_Model_day_L2  W 41) past nac imgs kept gvn costs lst sets bst mlo mal mpr lak trc ntr)) b (modL b lane many items spare stat tape taped fk (-1 : Int32) q1.1 q1.2.1 q1.2.2.1 q1.2.2.2 (f_Model_day_L2  W 41) past nac imgs kept gvn costs lst sets bst mlo mal mpr lak trc ntr) := ov_isV
      try simp only [if_pos c2] at K ⊢
      exact K
  have hv_b : isV (ov h b (modL b lane many items spare stat tape taped fk (-1 : Int32) q1.1 q1.2.1 q1.2.2.1 q1.2.2.2 (f_Model_day_L2  W 41) past nac imgs kept gvn costs lst sets bst mlo mal mpr lak trc ntr)) b (modL b lane many items spare stat tape taped fk (-1 : Int32) q1.1 q1.2.1 q1.2.2.1 q1.2.2.2 (f_Model_day_L2  W 41) past nac imgs kept gvn costs lst sets bst mlo mal mpr lak trc ntr) := ov_isV
  refine r_iconst X (1 : Int32) dX8_day_58 (by decide) ?_
  refine cl_X8_130 X (by decide) dX8_day_59 (Nat.le_of_ble_eq_true rfl) (hv_b 0 _ rfl) (c_Model_takes  (by first | assumption | omega) (by first | assumption | omega)) ?_
  obtain ⟨q2, eq2⟩ : ∃ q, q = f_Model_takes tape taped fk (-1 : Int32) q1.1 q1.2.1 q1.2.2.1 q1.2.2.2 (if q1.2.2.1 = (1 : Int32) then if q1.2.2.2 = (118 : Int32) then (1 : Int32) else (0 : Int32) else (0 : Int32)) (1 : Int32) := ⟨_, rfl⟩
  rw [← eq2]
  rw [← eq2] at hf
  rw [lt_eq] at hf
  have hma_q2 : q2.2.2.2.1 ≤ taped := by rw [eq2]; exact takes_post (by assumption) (by omega)
  have hms_q2 : q2.2.2.2.2.1 ≤ taped := by rw [eq2]; exact (takes_J (by assumption) (by omega) (by omega)).1.2
  have hv_b : isV (ov h b (modL b lane many items spare stat tape taped q2.2.1 q2.2.2.1 q2.2.2.2.1 q2.2.2.2.2.1 q2.2.2.2.2.2.1 q2.2.2.2.2.2.2 (f_Model_day_L2  W 41) past nac imgs kept gvn costs lst sets bst mlo mal mpr lak trc ntr)) b (modL b lane many items spare stat tape taped q2.2.1 q2.2.2.1 q2.2.2.2.1 q2.2.2.2.2.1 q2.2.2.2.2.2.1 q2.2.2.2.2.2.2 (f_Model_day_L2  W 41) past nac imgs kept gvn costs lst sets bst mlo mal mpr lak trc ntr) := ov_isV
  refine r_pop X dX8_day_62 rfl ?_
  refine r_aload_n X 0 dX8_day_63 rfl ?_
  refine gf_X8_28 X dX8_day_64 (hv_b 0 _ rfl) rfl ?_
  refine r_iconst X (2 : Int32) dX8_day_67 (by decide) ?_
  refine r_aload_n X 0 dX8_day_68 rfl ?_
  refine r_iconst X (0 : Int32) dX8_day_69 (by decide) ?_
  refine r_bipush X (20 : Int32) dX8_day_70 (by decide) ?_
  refine cl_X8_134 X (by decide) dX8_day_72 (Nat.le_of_ble_eq_true rfl) (hv_b 0 _ rfl) (c_Model_figure  (by first | assumption | omega) (by first | assumption | omega)) ?_
  obtain ⟨q3, eq3⟩ : ∃ q, q = f_Model_figure tape taped q2.2.1 q2.2.2.1 q2.2.2.2.1 q2.2.2.2.2.1 q2.2.2.2.2.2.1 q2.2.2.2.2.2.2 (0 : Int32) (20 : Int32) := ⟨_, rfl⟩
  rw [← eq3]
  rw [← eq3] at hf
  rw [lt_eq] at hf
  have hma_q3 : q3.2.2.2.1 ≤ taped := by rw [eq3]; exact figure_post (by assumption) (by omega)
  have hms_q3 : q3.2.2.2.2.1 ≤ taped := by rw [eq3]; exact (figure_J (by assumption) (by omega) (by omega)).1.2
  have hv_b : isV (ov h b (modL b lane many items spare stat tape taped q3.2.1 q3.2.2.1 q3.2.2.2.1 q3.2.2.2.2.1 q3.2.2.2.2.2.1 q3.2.2.2.2.2.2 (f_Model_day_L2  W 41) past nac imgs kept gvn costs lst sets bst mlo mal mpr lak trc ntr)) b (modL b lane many items spare stat tape taped q3.2.1 q3.2.2.1 q3.2.2.2.1 q3.2.2.2.2.1 q3.2.2.2.2.2.1 q3.2.2.2.2.2.2 (f_Model_day_L2  W 41) past nac imgs kept gvn costs lst sets bst mlo mal mpr lak trc ntr) := ov_isV
  refine r_iastn X (k0 := 2) dX8_day_75 (hv_b (6 + 1) _ (modL_W (by omega))) (by omega) (by first | decide | omega) ?_
  refine SW.heq (h2 := (ov h b (modL b lane many items spare stat tape taped q3.2.1 q3.2.2.1 q3.2.2.2.1 q3.2.2.2.2.1 q3.2.2.2.2.2.1 q3.2.2.2.2.2.2 (va_up (f_Model_day_L2  W 41) 1 (upd ((f_Model_day_L2  W 41) 1) 2 q3.1)) past nac imgs kept gvn costs lst sets bst mlo mal mpr lak trc ntr))) (ov_up (6 + 1) (show _ < 19 by omega) (modL_Wset (by omega))) ?_
  have hv_b : isV (ov h b (modL b lane many items spare stat tape taped q3.2.1 q3.2.2.1 q3.2.2.2.1 q3.2.2.2.2.1 q3.2.2.2.2.2.1 q3.2.2.2.2.2.2 (va_up (f_Model_day_L2  W 41) 1 (upd ((f_Model_day_L2  W 41) 1) 2 q3.1)) past nac imgs kept gvn costs lst sets bst mlo mal mpr lak trc ntr)) b (modL b lane many items spare stat tape taped q3.2.1 q3.2.2.1 q3.2.2.2.1 q3.2.2.2.2.1 q3.2.2.2.2.2.1 q3.2.2.2.2.2.2 (va_up (f_Model_day_L2  W 41) 1 (upd ((f_Model_day_L2  W 41) 1) 2 q3.1)) past nac imgs kept gvn costs lst sets bst mlo mal mpr lak trc ntr) := ov_isV
  refine r_aload_n X 0 dX8_day_76 rfl ?_
  refine r_aload_n X 0 dX8_day_77 rfl ?_
  refine gf_X8_114 X dX8_day_78 (hv_b 0 _ rfl) rfl ?_
  refine r_iconst X (4 : Int32) dX8_day_81 (by decide) ?_
  refine m_join (P := SW Z 90 [(0, .ref b)] [.int (if q3.2.2.2.2.2.1 = (4 : Int32) then (1 : Int32) else (0 : Int32)), .ref b] (ov h b (modL b lane many items spare stat tape taped q3.2.1 q3.2.2.1 q3.2.2.2.1 q3.2.2.2.2.1 q3.2.2.2.2.2.1 q3.2.2.2.2.2.2 (va_up (f_Model_day_L2  W 41) 1 (upd ((f_Model_day_L2  W 41) 1) 2 q3.1)) past nac imgs kept gvn costs lst sets bst mlo mal mpr lak trc ntr))) (fun K => ?_) ?_
  · refine r_icmp_ne X 89 dX8_day_82 rfl (fun c4 => ?_) (fun c4 => ?_)
    · skip
      refine r_iconst X (0 : Int32) dX8_day_89 (by decide) ?_
      try simp only [if_neg c4] at K ⊢
      exact K
    · skip
      refine r_iconst X (1 : Int32) dX8_day_85 (by decide) ?_
      refine r_goto X 90 dX8_day_86 rfl ?_
      try simp only [if_pos c4] at K ⊢
      exact K
  have hv_b : isV (ov h b (modL b lane many items spare stat tape taped q3.2.1 q3.2.2.1 q3.2.2.2.1 q3.2.2.2.2.1 q3.2.2.2.2.2.1 q3.2.2.2.2.2.2 (va_up (f_Model_day_L2  W 41) 1 (upd ((f_Model_day_L2  W 41) 1) 2 q3.1)) past nac imgs kept gvn costs lst sets bst mlo mal mpr lak trc ntr)) b (modL b lane many items spare stat tape taped q3.2.1 q3.2.2.1 q3.2.2.2.1 q3.2.2.2.2.1 q3.2.2.2.2.2.1 q3.2.2.2.2.2.2 (va_up (f_Model_day_L2  W 41) 1 (upd ((f_Model_day_L2  W 41) 1) 2 q3.1)) past nac imgs kept gvn costs lst sets bst mlo mal mpr lak trc ntr) := ov_isV
  refine r_iconst X (1 : Int32) dX8_day_90 (by decide) ?_
  refine cl_X8_130 X (by decide) dX8_day_91 (Nat.le_of_ble_eq_true rfl) (hv_b 0 _ rfl) (c_Model_takes  (by first | assumption | omega) (by first | assumption | omega)) ?_
  obtain ⟨q4, eq4⟩ : ∃ q, q = f_Model_takes tape taped q3.2.1 q3.2.2.1 q3.2.2.2.1 q3.2.2.2.2.1 q3.2.2.2.2.2.1 q3.2.2.2.2.2.2 (if q3.2.2.2.2.2.1 = (4 : Int32) then (1 : Int32) else (0 : Int32)) (1 : Int32) := ⟨_, rfl⟩
  rw [← eq4]
  rw [← eq4] at hf
  rw [lt_eq] at hf
  have hma_q4 : q4.2.2.2.1 ≤ taped := by rw [eq4]; exact takes_post (by assumption) (by omega)
  have hms_q4 : q4.2.2.2.2.1 ≤ taped := by rw [eq4]; exact (takes_J (by assumption) (by omega) (by omega)).1.2
  have hv_b : isV (ov h b (modL b lane many items spare stat tape taped q4.2.1 q4.2.2.1 q4.2.2.2.1 q4.2.2.2.2.1 q4.2.2.2.2.2.1 q4.2.2.2.2.2.2 (va_up (f_Model_day_L2  W 41) 1 (upd ((f_Model_day_L2  W 41) 1) 2 q3.1)) past nac imgs kept gvn costs lst sets bst mlo mal mpr lak trc ntr)) b (modL b lane many items spare stat tape taped q4.2.1 q4.2.2.1 q4.2.2.2.1 q4.2.2.2.2.1 q4.2.2.2.2.2.1 q4.2.2.2.2.2.2 (va_up (f_Model_day_L2  W 41) 1 (upd ((f_Model_day_L2  W 41) 1) 2 q3.1)) past nac imgs kept gvn costs lst sets bst mlo mal mpr lak trc ntr) := ov_isV
  refine r_pop X dX8_day_94 rfl ?_
  have wl7 : ∀ (n_ : Nat) (fkv : Int32) (fpv : Int32) (matv : Nat) (mstv : Nat) (tokv : Int32) (mvalv : Int32) (Wv : Nat → Nat → Int32), (matv ≤ taped ∧ mstv ≤ taped ∧ (∃ n, n ≤ 6 ∧ (Wv 1) 1 = nI n) ∧ (Wv 1) 0 = 0) → (if f_Model_isWell fpv = 0 then 0 else 6 + 1 - ((Wv 1) 1).toNatClampNeg) < n_ → ((((f_Model_day_L95 tape taped n_ fkv fpv matv mstv tokv mvalv Wv).2.2.1) ≤ taped ∧ ((f_Model_day_L95 tape taped n_ fkv fpv matv mstv tokv mvalv Wv).2.2.2.1) ≤ taped ∧ (∃ n, n ≤ 6 ∧ (((f_Model_day_L95 tape taped n_ fkv fpv matv mstv tokv mvalv Wv).2.2.2.2.2.2) 1) 1 = nI n) ∧ (((f_Model_day_L95 tape taped n_ fkv fpv matv mstv tokv mvalv Wv).2.2.2.2.2.2) 1) 0 = 0) → SW Z 126 [(0, .ref b)] [] (ov h b (modL b lane many items spare stat tape taped ((f_Model_day_L95 tape taped n_ fkv fpv matv mstv tokv mvalv Wv).1) ((f_Model_day_L95 tape taped n_ fkv fpv matv mstv tokv mvalv Wv).2.1) ((f_Model_day_L95 tape taped n_ fkv fpv matv mstv tokv mvalv Wv).2.2.1) ((f_Model_day_L95 tape taped n_ fkv fpv matv mstv tokv mvalv Wv).2.2.2.1) ((f_Model_day_L95 tape taped n_ fkv fpv matv mstv tokv mvalv Wv).2.2.2.2.1) ((f_Model_day_L95 tape taped n_ fkv fpv matv mstv tokv mvalv Wv).2.2.2.2.2.1) ((f_Model_day_L95 tape taped n_ fkv fpv matv mstv tokv mvalv Wv).2.2.2.2.2.2) past nac imgs kept gvn costs lst sets bst mlo mal mpr lak trc ntr))) → SW Z 95 [(0, .ref b)] [] (ov h b (modL b lane many items spare stat tape taped fkv fpv matv mstv tokv mvalv Wv past nac imgs kept gvn costs lst sets bst mlo mal mpr lak trc ntr)) := by
    intro n_
    induction n_ with
    | zero => intro fkv fpv matv mstv tokv mvalv Wv _ hm; exact absurd hm (Nat.not_lt_zero _)
    | succ n_ ih =>
      intro fkv fpv matv mstv tokv mvalv Wv hi hm K
      generalize hf : f_Model_day_L95 tape taped (n_ + 1) fkv fpv matv mstv tokv mvalv Wv = Rl at K
      rw [f_Model_day_L95] at hf
      have hv_b : isV (ov h b (modL b lane many items spare stat tape taped fkv fpv matv mstv tokv mvalv Wv past nac imgs kept gvn costs lst sets bst mlo mal mpr lak trc ntr)) b (modL b lane many items spare stat tape taped fkv fpv matv mstv tokv mvalv Wv past nac imgs kept gvn costs lst sets bst mlo mal mpr lak trc ntr) := ov_isV
      refine r_aload_n X 0 dX8_day_95 rfl ?_
      refine cl_X8_120 X (by decide) dX8_day_96 (Nat.le_of_ble_eq_true rfl) (hv_b 0 _ rfl) (c_Model_isWell hv_b ) ?_
      refine r_if_eq X 126 dX8_day_99 rfl (fun cw1 => ?_) (fun cw1 => ?_)
      · rw [if_pos cw1] at hf
        subst hf
        exact K hi
      · rw [if_neg cw1] at hf
        refine r_aload_n X 0 dX8_day_102 rfl ?_
        refine gf_X8_114 X dX8_day_103 (hv_b 0 _ rfl) rfl ?_
        refine r_iconst X (1 : Int32) dX8_day_106 (by decide) ?_
        refine r_icmp_ne X 126 dX8_day_107 rfl (fun c8 => ?_) (fun c8 => ?_)
        · rw [if_neg c8] at hf
          subst hf
          exact K hi
        · rw [if_pos c8] at hf
          refine r_aload_n X 0 dX8_day_110 rfl ?_
          refine gf_X8_111 X dX8_day_111 (hv_b 0 _ rfl) rfl ?_
          refine r_bipush X (104 : Int32) dX8_day_114 (by decide) ?_
          refine r_icmp_ne X 126 dX8_day_116 rfl (fun c9 => ?_) (fun c9 => ?_)
          · rw [if_neg c9] at hf
            subst hf
            exact K hi
          · rw [if_pos c9] at hf
            refine r_aload_n X 0 dX8_day_119 rfl ?_
            refine cl_X8_143 X (by decide) dX8_day_120 (Nat.le_of_ble_eq_true rfl) (hv_b 0 _ rfl) (c_Model_readsHour  (by first | assumption | omega) (by first | assumption | omega) (clamp_eq (N := 6) (by decide) hi.2.2.1) (clamp_le (N := 6) (by decide) hi.2.2.1)) ?_
            obtain ⟨q6, eq6⟩ : ∃ q, q = f_Model_readsHour tape taped fkv fpv matv mstv tokv mvalv Wv (((Wv 1) 1).toNatClampNeg) := ⟨_, rfl⟩
            rw [← eq6]
            rw [← eq6] at hf
            rw [lt_eq] at hf
            have hJ_q6 : psH taped (nI (((Wv 1) 1).toNatClampNeg) < 6) Wv 1 ((((Wv 1) 1).toNatClampNeg) + 1) q6 := by rw [eq6]; exact readsHour_J (by first | assumption | omega) (by first | assumption | omega) (by first | assumption | omega)
            have hv_b : isV (ov h b (modL b lane many items spare stat tape taped q6.1 q6.2.1 q6.2.2.1 q6.2.2.2.1 q6.2.2.2.2.1 q6.2.2.2.2.2.1 q6.2.2.2.2.2.2 past nac imgs kept gvn costs lst sets bst mlo mal mpr lak trc ntr)) b (modL b lane many items spare stat tape taped q6.1 q6.2.1 q6.2.2.1 q6.2.2.2.1 q6.2.2.2.2.1 q6.2.2.2.2.2.1 q6.2.2.2.2.2.2 past nac imgs kept gvn costs lst sets bst mlo mal mpr lak trc ntr) := ov_isV
            refine r_goto X 95 dX8_day_123 rfl ?_
            exact ih _ _ _ _ _ _ _ ⟨hJ_q6.1.1, hJ_q6.1.2, psH_inv (N := 6) (by decide) (fun e => nlt_nat (N := 6) (by decide) hi.2.2.1 (M := 6) (by decide) e) hi.2.2.1 hJ_q6, (hJ_q6.2.2.2 0 (by decide) (by decide)).trans hi.2.2.2⟩ (Nat.lt_of_lt_of_le (psH_mu (N := 6) (by decide) (fun e => nlt_nat (N := 6) (by decide) hi.2.2.1 (M := 6) (by decide) e) cw1 hi.2.2.1 hJ_q6) (Nat.le_of_lt_succ hm)) (by rw [hf]; exact K)
  refine wl7 8 q4.2.1 q4.2.2.1 q4.2.2.2.1 q4.2.2.2.2.1 q4.2.2.2.2.2.1 q4.2.2.2.2.2.2 (va_up (f_Model_day_L2  W 41) 1 (upd ((f_Model_day_L2  W 41) 1) 2 q3.1)) ⟨hma_q4, hms_q4, ⟨0, by decide, tr_at ((pk_un (by decide)).trans ((day_z 41 1 (by decide)).trans nI_0.symm))⟩, tr_at ((pk_un (by decide)).trans (day_z 41 0 (by decide)))⟩ (mu_le (by omega)) (fun hi => ?_)
  obtain ⟨q7, eq7⟩ : ∃ q, q = f_Model_day_L95 tape taped 8 q4.2.1 q4.2.2.1 q4.2.2.2.1 q4.2.2.2.2.1 q4.2.2.2.2.2.1 q4.2.2.2.2.2.2 (va_up (f_Model_day_L2  W 41) 1 (upd ((f_Model_day_L2  W 41) 1) 2 q3.1)) := ⟨_, rfl⟩
  rw [← eq7]
  rw [← eq7] at hf
  rw [lt_eq] at hf
  rw [← eq7] at hi
  have hv_b : isV (ov h b (modL b lane many items spare stat tape taped q7.1 q7.2.1 q7.2.2.1 q7.2.2.2.1 q7.2.2.2.2.1 q7.2.2.2.2.2.1 q7.2.2.2.2.2.2 past nac imgs kept gvn costs lst sets bst mlo mal mpr lak trc ntr)) b (modL b lane many items spare stat tape taped q7.1 q7.2.1 q7.2.2.1 q7.2.2.2.1 q7.2.2.2.2.1 q7.2.2.2.2.2.1 q7.2.2.2.2.2.2 past nac imgs kept gvn costs lst sets bst mlo mal mpr lak trc ntr) := ov_isV
  refine r_aload_n X 0 dX8_day_126 rfl ?_
  refine r_aload_n X 0 dX8_day_127 rfl ?_
  refine gf_X8_28 X dX8_day_128 (hv_b 0 _ rfl) rfl ?_
  refine r_iconst X (1 : Int32) dX8_day_131 (by decide) ?_
  refine r_ialdn X (k0 := 1) dX8_day_132 (hv_b (6 + 1) _ (modL_W (by omega))) (by omega) (by decide) ?_
  refine m_join (P := SW Z 141 [(0, .ref b)] [.int (if (0 : Int32) < ((q7.2.2.2.2.2.2 1) 1) then (1 : Int32) else (0 : Int32)), .ref b] (ov h b (modL b lane many items spare stat tape taped q7.1 q7.2.1 q7.2.2.1 q7.2.2.2.1 q7.2.2.2.2.1 q7.2.2.2.2.2.1 q7.2.2.2.2.2.2 past nac imgs kept gvn costs lst sets bst mlo mal mpr lak trc ntr))) (fun K => ?_) ?_
  · refine r_if_le X 140 dX8_day_133 rfl (fun c10 => ?_) (fun c10 => ?_)
    · skip
      refine r_iconst X (0 : Int32) dX8_day_140 (by decide) ?_
      try simp only [if_neg c10] at K ⊢
      exact K
    · skip
      refine r_iconst X (1 : Int32) dX8_day_136 (by decide) ?_
      refine r_goto X 141 dX8_day_137 rfl ?_
      try simp only [if_pos c10] at K ⊢
      exact K
  have hv_b : isV (ov h b (modL b lane many items spare stat tape taped q7.1 q7.2.1 q7.2.2.1 q7.2.2.2.1 q7.2.2.2.2.1 q7.2.2.2.2.2.1 q7.2.2.2.2.2.2 past nac imgs kept gvn costs lst sets bst mlo mal mpr lak trc ntr)) b (modL b lane many items spare stat tape taped q7.1 q7.2.1 q7.2.2.1 q7.2.2.2.1 q7.2.2.2.2.1 q7.2.2.2.2.2.1 q7.2.2.2.2.2.2 past nac imgs kept gvn costs lst sets bst mlo mal mpr lak trc ntr) := ov_isV
  refine cl_X8_146 X (by decide) dX8_day_141 (Nat.le_of_ble_eq_true rfl) (hv_b 0 _ rfl) (c_Model_must  (by first | assumption | omega) (by first | assumption | omega)) ?_
  obtain ⟨q8, eq8⟩ : ∃ q, q = f_Model_must tape taped q7.1 q7.2.1 q7.2.2.1 q7.2.2.2.1 q7.2.2.2.2.1 q7.2.2.2.2.2.1 (if (0 : Int32) < ((q7.2.2.2.2.2.2 1) 1) then (1 : Int32) else (0 : Int32)) := ⟨_, rfl⟩
  rw [← eq8]
  rw [← eq8] at hf
  rw [lt_eq] at hf
  have hma_q8 : q8.2.2.1 ≤ taped := by rw [eq8]; exact must_post (by assumption) (by omega)
  have hms_q8 : q8.2.2.2.1 ≤ taped := by rw [eq8]; exact must_J (by assumption) (by omega) (by omega)
  have hv_b : isV (ov h b (modL b lane many items spare stat tape taped q8.1 q8.2.1 q8.2.2.1 q8.2.2.2.1 q8.2.2.2.2.1 q8.2.2.2.2.2 q7.2.2.2.2.2.2 past nac imgs kept gvn costs lst sets bst mlo mal mpr lak trc ntr)) b (modL b lane many items spare stat tape taped q8.1 q8.2.1 q8.2.2.1 q8.2.2.2.1 q8.2.2.2.2.1 q8.2.2.2.2.2 q7.2.2.2.2.2.2 past nac imgs kept gvn costs lst sets bst mlo mal mpr lak trc ntr) := ov_isV
  have wl13 : ∀ (n_ : Nat) (fkv : Int32) (fpv : Int32) (matv : Nat) (mstv : Nat) (tokv : Int32) (mvalv : Int32) (Wv : Nat → Nat → Int32), (matv ≤ taped ∧ mstv ≤ taped ∧ (∃ n, n ≤ 4 ∧ (Wv 1) 0 = nI n)) → (if f_Model_isWell fpv = 0 then 0 else 4 + 1 - ((Wv 1) 0).toNatClampNeg) < n_ → ((((f_Model_day_L144 tape taped n_ fkv fpv matv mstv tokv mvalv Wv).2.2.1) ≤ taped ∧ ((f_Model_day_L144 tape taped n_ fkv fpv matv mstv tokv mvalv Wv).2.2.2.1) ≤ taped ∧ (∃ n, n ≤ 4 ∧ (((f_Model_day_L144 tape taped n_ fkv fpv matv mstv tokv mvalv Wv).2.2.2.2.2.2) 1) 0 = nI n)) → SW Z 176 [(0, .ref b)] [] (ov h b (modL b lane many items spare stat tape taped ((f_Model_day_L144 tape taped n_ fkv fpv matv mstv tokv mvalv Wv).1) ((f_Model_day_L144 tape taped n_ fkv fpv matv mstv tokv mvalv Wv).2.1) ((f_Model_day_L144 tape taped n_ fkv fpv matv mstv tokv mvalv Wv).2.2.1) ((f_Model_day_L144 tape taped n_ fkv fpv matv mstv tokv mvalv Wv).2.2.2.1) ((f_Model_day_L144 tape taped n_ fkv fpv matv mstv tokv mvalv Wv).2.2.2.2.1) ((f_Model_day_L144 tape taped n_ fkv fpv matv mstv tokv mvalv Wv).2.2.2.2.2.1) ((f_Model_day_L144 tape taped n_ fkv fpv matv mstv tokv mvalv Wv).2.2.2.2.2.2) past nac imgs kept gvn costs lst sets bst mlo mal mpr lak trc ntr))) → SW Z 144 [(0, .ref b)] [] (ov h b (modL b lane many items spare stat tape taped fkv fpv matv mstv tokv mvalv Wv past nac imgs kept gvn costs lst sets bst mlo mal mpr lak trc ntr)) := by
    intro n_
    induction n_ with
    | zero => intro fkv fpv matv mstv tokv mvalv Wv _ hm; exact absurd hm (Nat.not_lt_zero _)
    | succ n_ ih =>
      intro fkv fpv matv mstv tokv mvalv Wv hi hm K
      generalize hf : f_Model_day_L144 tape taped (n_ + 1) fkv fpv matv mstv tokv mvalv Wv = Rl at K
      rw [f_Model_day_L144] at hf
      have hv_b : isV (ov h b (modL b lane many items spare stat tape taped fkv fpv matv mstv tokv mvalv Wv past nac imgs kept gvn costs lst sets bst mlo mal mpr lak trc ntr)) b (modL b lane many items spare stat tape taped fkv fpv matv mstv tokv mvalv Wv past nac imgs kept gvn costs lst sets bst mlo mal mpr lak trc ntr) := ov_isV
      refine r_aload_n X 0 dX8_day_144 rfl ?_
      refine cl_X8_120 X (by decide) dX8_day_145 (Nat.le_of_ble_eq_true rfl) (hv_b 0 _ rfl) (c_Model_isWell hv_b ) ?_
      refine r_if_eq X 176 dX8_day_148 rfl (fun cw0 => ?_) (fun cw0 => ?_)
      · rw [if_pos cw0] at hf
        subst hf
        exact K hi
      · rw [if_neg cw0] at hf
        refine r_aload_n X 0 dX8_day_151 rfl ?_
        refine gf_X8_114 X dX8_day_152 (hv_b 0 _ rfl) rfl ?_
        refine r_iconst X (1 : Int32) dX8_day_155 (by decide) ?_
        refine r_icmp_ne X 176 dX8_day_156 rfl (fun c14 => ?_) (fun c14 => ?_)
        · rw [if_neg c14] at hf
          subst hf
          exact K hi
        · rw [if_pos c14] at hf
          refine r_aload_n X 0 dX8_day_159 rfl ?_
          refine gf_X8_111 X dX8_day_160 (hv_b 0 _ rfl) rfl ?_
          refine cl_X8_137 X (by decide) dX8_day_163 (Nat.le_of_ble_eq_true rfl) (c_Model_kindOf  ) ?_
          refine r_if_le X 176 dX8_day_166 rfl (fun c15 => ?_) (fun c15 => ?_)
          · rw [if_neg c15] at hf
            subst hf
            exact K hi
          · rw [if_pos c15] at hf
            refine r_aload_n X 0 dX8_day_169 rfl ?_
            refine cl_X8_150 X (by decide) dX8_day_170 (Nat.le_of_ble_eq_true rfl) (hv_b 0 _ rfl) (c_Model_readsUnit  (by first | assumption | omega) (by first | assumption | omega) (clamp_eq (N := 4) (by decide) hi.2.2) (clamp_le (N := 4) (by decide) hi.2.2)) ?_
            obtain ⟨q10, eq10⟩ : ∃ q, q = f_Model_readsUnit tape taped fkv fpv matv mstv tokv mvalv Wv (((Wv 1) 0).toNatClampNeg) := ⟨_, rfl⟩
            rw [← eq10]
            rw [← eq10] at hf
            rw [lt_eq] at hf
            have hJ_q10 : psH taped (nI (((Wv 1) 0).toNatClampNeg) < 4) Wv 0 ((((Wv 1) 0).toNatClampNeg) + 1) q10 := by rw [eq10]; exact readsUnit_J (by first | assumption | omega) (by first | assumption | omega) (by first | assumption | omega)
            have hv_b : isV (ov h b (modL b lane many items spare stat tape taped q10.1 q10.2.1 q10.2.2.1 q10.2.2.2.1 q10.2.2.2.2.1 q10.2.2.2.2.2.1 q10.2.2.2.2.2.2 past nac imgs kept gvn costs lst sets bst mlo mal mpr lak trc ntr)) b (modL b lane many items spare stat tape taped q10.1 q10.2.1 q10.2.2.1 q10.2.2.2.1 q10.2.2.2.2.1 q10.2.2.2.2.2.1 q10.2.2.2.2.2.2 past nac imgs kept gvn costs lst sets bst mlo mal mpr lak trc ntr) := ov_isV
            refine r_goto X 144 dX8_day_173 rfl ?_
            exact ih _ _ _ _ _ _ _ ⟨hJ_q10.1.1, hJ_q10.1.2, psH_inv (N := 4) (by decide) (fun e => nlt_nat (N := 4) (by decide) hi.2.2 (M := 4) (by decide) e) hi.2.2 hJ_q10⟩ (Nat.lt_of_lt_of_le (psH_mu (N := 4) (by decide) (fun e => nlt_nat (N := 4) (by decide) hi.2.2 (M := 4) (by decide) e) cw0 hi.2.2 hJ_q10) (Nat.le_of_lt_succ hm)) (by rw [hf]; exact K)
  refine wl13 6 q8.1 q8.2.1 q8.2.2.1 q8.2.2.2.1 q8.2.2.2.2.1 q8.2.2.2.2.2 q7.2.2.2.2.2.2 ⟨hma_q8, hms_q8, ⟨0, by decide, hi.2.2.2.trans nI_0.symm⟩⟩ (mu_le (by omega)) (fun hi => ?_)
  obtain ⟨q11, eq11⟩ : ∃ q, q = f_Model_day_L144 tape taped 6 q8.1 q8.2.1 q8.2.2.1 q8.2.2.2.1 q8.2.2.2.2.1 q8.2.2.2.2.2 q7.2.2.2.2.2.2 := ⟨_, rfl⟩
  rw [← eq11]
  rw [← eq11] at hf
  rw [lt_eq] at hf
  rw [← eq11] at hi
  have hv_b : isV (ov h b (modL b lane many items spare stat tape taped q11.1 q11.2.1 q11.2.2.1 q11.2.2.2.1 q11.2.2.2.2.1 q11.2.2.2.2.2.1 q11.2.2.2.2.2.2 past nac imgs kept gvn costs lst sets bst mlo mal mpr lak trc ntr)) b (modL b lane many items spare stat tape taped q11.1 q11.2.1 q11.2.2.1 q11.2.2.2.1 q11.2.2.2.2.1 q11.2.2.2.2.2.1 q11.2.2.2.2.2.2 past nac imgs kept gvn costs lst sets bst mlo mal mpr lak trc ntr) := ov_isV
  refine r_aload_n X 0 dX8_day_176 rfl ?_
  refine r_aload_n X 0 dX8_day_177 rfl ?_
  refine gf_X8_28 X dX8_day_178 (hv_b 0 _ rfl) rfl ?_
  refine r_iconst X (0 : Int32) dX8_day_181 (by decide) ?_
  refine r_ialdn X (k0 := 0) dX8_day_182 (hv_b (6 + 1) _ (modL_W (by omega))) (by omega) (by decide) ?_
  refine m_join (P := SW Z 198 [(0, .ref b)] [.int (if (0 : Int32) < ((q11.2.2.2.2.2.2 1) 0) then if q11.2.2.2.2.1 = (0 : Int32) then (1 : Int32) else (0 : Int32) else (0 : Int32)), .ref b] (ov h b (modL b lane many items spare stat tape taped q11.1 q11.2.1 q11.2.2.1 q11.2.2.2.1 q11.2.2.2.2.1 q11.2.2.2.2.2.1 q11.2.2.2.2.2.2 past nac imgs kept gvn costs lst sets bst mlo mal mpr lak trc ntr))) (fun K => ?_) ?_
  · refine r_if_le X 197 dX8_day_183 rfl (fun c16 => ?_) (fun c16 => ?_)
    · skip
      refine r_iconst X (0 : Int32) dX8_day_197 (by decide) ?_
      try simp only [if_neg c16] at K ⊢
      exact K
    · skip
      refine r_aload_n X 0 dX8_day_186 rfl ?_
      refine gf_X8_114 X dX8_day_187 (hv_b 0 _ rfl) rfl ?_
      refine m_join (P := SW Z 198 [(0, .ref b)] [.int (if q11.2.2.2.2.1 = (0 : Int32) then (1 : Int32) else (0 : Int32)), .ref b] (ov h b (modL b lane many items spare stat tape taped q11.1 q11.2.1 q11.2.2.1 q11.2.2.2.1 q11.2.2.2.2.1 q11.2.2.2.2.2.1 q11.2.2.2.2.2.2 past nac imgs kept gvn costs lst sets bst mlo mal mpr lak trc ntr))) (fun K => ?_) ?_
      · refine r_if_ne X 197 dX8_day_190 rfl (fun c17 => ?_) (fun c17 => ?_)
        · skip
          refine r_iconst X (0 : Int32) dX8_day_197 (by decide) ?_
          try simp only [if_neg c17] at K ⊢
          exact K
        · skip
          refine r_iconst X (1 : Int32) dX8_day_193 (by decide) ?_
          refine r_goto X 198 dX8_day_194 rfl ?_
          try simp only [if_pos c17] at K ⊢
          exact K
      have hv_b : isV (ov h b (modL b lane many items spare stat tape taped q11.1 q11.2.1 q11.2.2.1 q11.2.2.2.1 q11.2.2.2.2.1 q11.2.2.2.2.2.1 q11.2.2.2.2.2.2 past nac imgs kept gvn costs lst sets bst mlo mal mpr lak trc ntr)) b (modL b lane many items spare stat tape taped q11.1 q11.2.1 q11.2.2.1 q11.2.2.2.1 q11.2.2.2.2.1 q11.2.2.2.2.2.1 q11.2.2.2.2.2.2 past nac imgs kept gvn costs lst sets bst mlo mal mpr lak trc ntr) := ov_isV
      try simp only [if_pos c16] at K ⊢
      exact K
  have hv_b : isV (ov h b (modL b lane many items spare stat tape taped q11.1 q11.2.1 q11.2.2.1 q11.2.2.2.1 q11.2.2.2.2.1 q11.2.2.2.2.2.1 q11.2.2.2.2.2.2 past nac imgs kept gvn costs lst sets bst mlo mal mpr lak trc ntr)) b (modL b lane many items spare stat tape taped q11.1 q11.2.1 q11.2.2.1 q11.2.2.2.1 q11.2.2.2.2.1 q11.2.2.2.2.2.1 q11.2.2.2.2.2.2 past nac imgs kept gvn costs lst sets bst mlo mal mpr lak trc ntr) := ov_isV
  refine cl_X8_146 X (by decide) dX8_day_198 (Nat.le_of_ble_eq_true rfl) (hv_b 0 _ rfl) (c_Model_must  (by first | assumption | omega) (by first | assumption | omega)) ?_
  obtain ⟨q12, eq12⟩ : ∃ q, q = f_Model_must tape taped q11.1 q11.2.1 q11.2.2.1 q11.2.2.2.1 q11.2.2.2.2.1 q11.2.2.2.2.2.1 (if (0 : Int32) < ((q11.2.2.2.2.2.2 1) 0) then if q11.2.2.2.2.1 = (0 : Int32) then (1 : Int32) else (0 : Int32) else (0 : Int32)) := ⟨_, rfl⟩
  rw [← eq12]
  rw [← eq12] at hf
  rw [lt_eq] at hf
  have hma_q12 : q12.2.2.1 ≤ taped := by rw [eq12]; exact must_post (by assumption) (by omega)
  have hms_q12 : q12.2.2.2.1 ≤ taped := by rw [eq12]; exact must_J (by assumption) (by omega) (by omega)
  have hv_b : isV (ov h b (modL b lane many items spare stat tape taped q12.1 q12.2.1 q12.2.2.1 q12.2.2.2.1 q12.2.2.2.2.1 q12.2.2.2.2.2 q11.2.2.2.2.2.2 past nac imgs kept gvn costs lst sets bst mlo mal mpr lak trc ntr)) b (modL b lane many items spare stat tape taped q12.1 q12.2.1 q12.2.2.1 q12.2.2.2.1 q12.2.2.2.2.1 q12.2.2.2.2.2 q11.2.2.2.2.2.2 past nac imgs kept gvn costs lst sets bst mlo mal mpr lak trc ntr) := ov_isV
  refine r_aload_n X 0 dX8_day_201 rfl ?_
  refine r_iconst X (0 : Int32) dX8_day_202 (by decide) ?_
  refine pf_X8_98 X dX8_day_203 (hv_b 0 _ rfl) (Nat.le_of_ble_eq_true rfl) ?_
  refine SW.heq (h2 := (ov h b (modL b lane many items spare stat tape 0 q12.1 q12.2.1 q12.2.2.1 q12.2.2.2.1 q12.2.2.2.2.1 q12.2.2.2.2.2 q11.2.2.2.2.2.2 past nac imgs kept gvn costs lst sets bst mlo mal mpr lak trc ntr))) (ov_up 0 (Nat.le_of_ble_eq_true rfl) rfl) ?_
  have hv_b : isV (ov h b (modL b lane many items spare stat tape 0 q12.1 q12.2.1 q12.2.2.1 q12.2.2.2.1 q12.2.2.2.2.1 q12.2.2.2.2.2 q11.2.2.2.2.2.2 past nac imgs kept gvn costs lst sets bst mlo mal mpr lak trc ntr)) b (modL b lane many items spare stat tape 0 q12.1 q12.2.1 q12.2.2.1 q12.2.2.2.1 q12.2.2.2.2.1 q12.2.2.2.2.2 q11.2.2.2.2.2.2 past nac imgs kept gvn costs lst sets bst mlo mal mpr lak trc ntr) := ov_isV
  refine r_aload_n X 0 dX8_day_206 rfl ?_
  refine cl_X8_120 X (by decide) dX8_day_207 (Nat.le_of_ble_eq_true rfl) (hv_b 0 _ rfl) (c_Model_isWell hv_b ) ?_
  refine r_if_ne X 221 dX8_day_210 rfl (fun c18 => ?_) (fun c18 => ?_)
  · rw [if_neg c18] at hf
    refine r_aload_n X 0 dX8_day_221 rfl ?_
    refine gf_X8_28 X dX8_day_222 (hv_b 0 _ rfl) rfl ?_
    refine r_iconst X (0 : Int32) dX8_day_225 (by decide) ?_
    refine r_aload_n X 0 dX8_day_226 rfl ?_
    refine gf_X8_25 X dX8_day_227 (hv_b 0 _ rfl) rfl ?_
    refine r_iconst X (0 : Int32) dX8_day_230 (by decide) ?_
    refine cl_X8_154 X (by decide) dX8_day_231 (Nat.le_of_ble_eq_true rfl) (c_copies_up (a := 0) (c := 0) (hv_b (6 + 1) _ (modL_W (by omega))) (hv_b (6 + 0) _ (modL_W (by omega))) (by omega) (by omega) (by omega)) ?_
    refine SW.heq (h2 := (ov h b (modL b lane many items spare stat tape 0 q12.1 q12.2.1 q12.2.2.1 q12.2.2.2.1 q12.2.2.2.2.1 q12.2.2.2.2.2 (va_up q11.2.2.2.2.2.2 0 (f_copies (q11.2.2.2.2.2.2 1) (q11.2.2.2.2.2.2 0) 0 0)) past nac imgs kept gvn costs lst sets bst mlo mal mpr lak trc ntr))) (ov_up (6 + 0) (show _ < 19 by omega) (modL_Wset (by omega))) ?_
    have hv_b : isV (ov h b (modL b lane many items spare stat tape 0 q12.1 q12.2.1 q12.2.2.1 q12.2.2.2.1 q12.2.2.2.2.1 q12.2.2.2.2.2 (va_up q11.2.2.2.2.2.2 0 (f_copies (q11.2.2.2.2.2.2 1) (q11.2.2.2.2.2.2 0) 0 0)) past nac imgs kept gvn costs lst sets bst mlo mal mpr lak trc ntr)) b (modL b lane many items spare stat tape 0 q12.1 q12.2.1 q12.2.2.1 q12.2.2.2.1 q12.2.2.2.2.1 q12.2.2.2.2.2 (va_up q11.2.2.2.2.2.2 0 (f_copies (q11.2.2.2.2.2.2 1) (q11.2.2.2.2.2.2 0) 0 0)) past nac imgs kept gvn costs lst sets bst mlo mal mpr lak trc ntr) := ov_isV
    refine r_aload_n X 0 dX8_day_234 rfl ?_
    refine r_iconst X (0 : Int32) dX8_day_235 (by decide) ?_
    refine pf_X8_158 X dX8_day_236 (hv_b 0 _ rfl) (Nat.le_of_ble_eq_true rfl) ?_
    refine SW.heq (h2 := (ov h b (modL b lane many items spare stat tape 0 q12.1 q12.2.1 q12.2.2.1 q12.2.2.2.1 q12.2.2.2.2.1 q12.2.2.2.2.2 (va_up q11.2.2.2.2.2.2 0 (f_copies (q11.2.2.2.2.2.2 1) (q11.2.2.2.2.2.2 0) 0 0)) past 0 imgs kept gvn costs lst sets bst mlo mal mpr lak trc ntr))) (ov_up 0 (Nat.le_of_ble_eq_true rfl) rfl) ?_
    have hv_b : isV (ov h b (modL b lane many items spare stat tape 0 q12.1 q12.2.1 q12.2.2.1 q12.2.2.2.1 q12.2.2.2.2.1 q12.2.2.2.2.2 (va_up q11.2.2.2.2.2.2 0 (f_copies (q11.2.2.2.2.2.2 1) (q11.2.2.2.2.2.2 0) 0 0)) past 0 imgs kept gvn costs lst sets bst mlo mal mpr lak trc ntr)) b (modL b lane many items spare stat tape 0 q12.1 q12.2.1 q12.2.2.1 q12.2.2.2.1 q12.2.2.2.2.1 q12.2.2.2.2.2 (va_up q11.2.2.2.2.2.2 0 (f_copies (q11.2.2.2.2.2.2 1) (q11.2.2.2.2.2.2 0) 0 0)) past 0 imgs kept gvn costs lst sets bst mlo mal mpr lak trc ntr) := ov_isV
    refine r_aload_n X 0 dX8_day_239 rfl ?_
    refine gf_X8_25 X dX8_day_240 (hv_b 0 _ rfl) rfl ?_
    refine r_iconst X (0 : Int32) dX8_day_243 (by decide) ?_
    refine r_ialdn X (k0 := 0) dX8_day_244 (hv_b (6 + 0) _ (modL_W (by omega))) (by omega) (by decide) ?_
    try rw [vu_self]
    try subst hf
    exact r_ireturn X Y dX8_day_245 rfl rfl
  · rw [if_pos c18] at hf
    refine r_ldc X dX8_day_213 kk_X8_153 ?_
    refine r_aload_n X 0 dX8_day_215 rfl ?_
    refine gf_X8_117 X dX8_day_216 (hv_b 0 _ rfl) rfl ?_
    refine r_isub X dX8_day_219 ?_
    try subst hf
    exact r_ireturn X Y dX8_day_220 rfl rfl
