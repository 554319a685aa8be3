set_option maxRecDepth 20000 in
set_option maxHeartbeats 8000000 in
theorem lw_sw {Z : mZ} {t b L x mb k : Nat} {xs : Nat → Int32} {h : mHp} (hL : L ≤ 3072) (hk : 6 * k + 6 ≤ L) (X : mCx Z RL cL_law 4 10) (T : mCt Z t) (S : mSc Z b L xs) (I : INV h x mb) (K : ∀ h2, INV h2 x mb → SW Z 1242 [(0, .ref b), (1, .ref x), (2, .ref mb), (3, .int (nI (6 * k)))] [] h2) (w : Int32) : SW Z 33 [(0, .ref b), (1, .ref x), (2, .ref mb), (3, .int (nI (6 * k)))] [.int (w &&& 63)] h := by
  obtain ⟨j, hj, ej⟩ := and63 w
  rw [ej]
  rcases (show j = 0 ∨ j = 1 ∨ j = 2 ∨ j = 3 ∨ j = 4 ∨ j = 5 ∨ j = 6 ∨ j = 7 ∨ j = 8 ∨ j = 9 ∨ j = 10 ∨ j = 11 ∨ j = 12 ∨ j = 13 ∨ j = 14 ∨ j = 15 ∨ j = 16 ∨ j = 17 ∨ j = 18 ∨ j = 19 ∨ j = 20 ∨ j = 21 ∨ j = 22 ∨ j = 23 ∨ j = 24 ∨ j = 25 ∨ j = 26 ∨ j = 27 ∨ j = 28 ∨ j = 29 ∨ j = 30 ∨ j = 31 ∨ j = 32 ∨ j = 33 ∨ j = 34 ∨ j = 35 ∨ 36 ≤ j by omega) with rfl | rfl | rfl | rfl | rfl | rfl | rfl | rfl | rfl | rfl | rfl | rfl | rfl | rfl | rfl | rfl | rfl | rfl | rfl | rfl | rfl | rfl | rfl | rfl | rfl | rfl | rfl | rfl | rfl | rfl | rfl | rfl | rfl | rfl | rfl | rfl | hj2
  · exact r_tsin X 192 dL_law_33 (by decide) (by decide) rfl rfl (lw_c0 (by decide) (by decide) hL hk X T S I (s_row (G := Z.1) I (xs (6 * k + 1)) (xs (6 * k + 2)) (xs (6 * k + 3))) K)
  · exact r_tsin X 235 dL_law_33 (by decide) (by decide) rfl rfl (lw_c1 (by decide) (by decide) hL hk X T S I (s_set (G := Z.1) I (xs (6 * k + 1)) (xs (6 * k + 2)) (xs (6 * k + 3))) K)
  · exact r_tsin X 278 dL_law_33 (by decide) (by decide) rfl rfl (lw_c2 (by decide) (by decide) hL hk X T S I (s_copy (G := Z.1) I (xs (6 * k + 1)) (xs (6 * k + 2)) (xs (6 * k + 3)) (xs (6 * k + 4)) (xs (6 * k + 5))) K)
  · exact r_tsin X 341 dL_law_33 (by decide) (by decide) rfl rfl (lw_c3 (by decide) (by decide) hL hk X T S I (s_drop (G := Z.1) I (xs (6 * k + 1))) K)
  · exact r_tsin X 364 dL_law_33 (by decide) (by decide) rfl rfl (lw_c4 (by decide) (by decide) hL hk X T S I (s_feed (G := Z.1) I (xs (6 * k + 1))) K)
  · exact r_tsin X 387 dL_law_33 (by decide) (by decide) rfl rfl (lw_c5 (by decide) (by decide) hL hk X T S I (s_day (G := Z.1) I ) K)
  · exact r_tsin X 400 dL_law_33 (by decide) (by decide) rfl rfl (lw_c6 (by decide) (by decide) hL hk X T S I (s_fault (G := Z.1) I ) K)
  · exact r_tsin X 413 dL_law_33 (by decide) (by decide) rfl rfl (lw_c7 (by decide) (by decide) hL hk X T S I (s_run (G := Z.1) I (xs (6 * k + 1)) (xs (6 * k + 2))) K)
  · exact r_tsin X 446 dL_law_33 (by decide) (by decide) rfl rfl (lw_c8 (by decide) (by decide) hL hk X T S I (s_layBest (G := Z.1) I ) K)
  · exact r_tsin X 459 dL_law_33 (by decide) (by decide) rfl rfl (lw_c9 (by decide) (by decide) hL hk X T S I (s_demand (G := Z.1) I (xs (6 * k + 1)) (xs (6 * k + 2))) K)
  · exact r_tsin X 492 dL_law_33 (by decide) (by decide) rfl rfl (lw_c10 (by decide) (by decide) hL hk X T S I (s_reserve (G := Z.1) I (xs (6 * k + 1))) K)
  · exact r_tsin X 515 dL_law_33 (by decide) (by decide) rfl rfl (lw_c11 (by decide) (by decide) hL hk X T S I (s_price (G := Z.1) I (xs (6 * k + 1)) (xs (6 * k + 2))) K)
  · exact r_tsin X 548 dL_law_33 (by decide) (by decide) rfl rfl (lw_c12 (by decide) (by decide) hL hk X T S I (s_become (G := Z.1) I (xs (6 * k + 1)) (xs (6 * k + 2))) K)
  · exact r_tsin X 581 dL_law_33 (by decide) (by decide) rfl rfl (lw_c13 (by decide) (by decide) hL hk X T S I (s_undo (G := Z.1) I ) K)
  · exact r_tsin X 594 dL_law_33 (by decide) (by decide) rfl rfl (lw_c14 (by decide) (by decide) hL hk X T S I (s_unit (G := Z.1) I (xs (6 * k + 1)) (xs (6 * k + 2))) K)
  · exact r_tsin X 627 dL_law_33 (by decide) (by decide) rfl rfl (lw_c15 (by decide) (by decide) hL hk X T S I (s_hour (G := Z.1) I (xs (6 * k + 1)) (xs (6 * k + 2))) K)
  · exact r_tsin X 660 dL_law_33 (by decide) (by decide) rfl rfl (lw_c16 (by decide) (by decide) hL hk X T S I (s_gives (G := Z.1) I (xs (6 * k + 1)) (xs (6 * k + 2))) K)
  · exact r_tsin X 693 dL_law_33 (by decide) (by decide) rfl rfl (lw_c17 (by decide) (by decide) hL hk X T S I (s_plan (G := Z.1) I (xs (6 * k + 1))) K)
  · exact r_tsin X 716 dL_law_33 (by decide) (by decide) rfl rfl (lw_c18 (by decide) (by decide) hL hk X T S I (s_best (G := Z.1) I (xs (6 * k + 1))) K)
  · exact r_tsin X 739 dL_law_33 (by decide) (by decide) rfl rfl (lw_c19 (by decide) (by decide) hL hk X T S I (s_alone (G := Z.1) I (xs (6 * k + 1)) (xs (6 * k + 2)) (xs (6 * k + 3)) (xs (6 * k + 4))) K)
  · exact r_tsin X 793 dL_law_33 (by decide) (by decide) rfl rfl (lw_c20 (by decide) (by decide) hL hk X T S I (s_bound (G := Z.1) I (xs (6 * k + 1)) (xs (6 * k + 2))) K)
  · exact r_tsin X 827 dL_law_33 (by decide) (by decide) rfl rfl (lw_c21 (by decide) (by decide) hL hk X T S I (s_moved (G := Z.1) I (xs (6 * k + 1)) (xs (6 * k + 2))) K)
  · exact r_tsin X 860 dL_law_33 (by decide) (by decide) rfl rfl (lw_c22 (by decide) (by decide) hL hk X T S I (s_gap (G := Z.1) I (xs (6 * k + 1))) K)
  · exact r_tsin X 883 dL_law_33 (by decide) (by decide) rfl rfl (lw_c23 (by decide) (by decide) hL hk X T S I (s_more (G := Z.1) I (xs (6 * k + 1))) K)
  · exact r_tsin X 906 dL_law_33 (by decide) (by decide) rfl rfl (lw_c24 (by decide) (by decide) hL hk X T S I (s_wanted (G := Z.1) I ) K)
  · exact r_tsin X 919 dL_law_33 (by decide) (by decide) rfl rfl (lw_c25 (by decide) (by decide) hL hk X T S I (s_who (G := Z.1) I (xs (6 * k + 1)) (xs (6 * k + 2)) (xs (6 * k + 3))) K)
  · exact r_tsin X 962 dL_law_33 (by decide) (by decide) rfl rfl (lw_c26 (by decide) (by decide) hL hk X T S I (s_fits (G := Z.1) I (xs (6 * k + 1)) (xs (6 * k + 2)) (xs (6 * k + 3))) K)
  · exact r_tsin X 1005 dL_law_33 (by decide) (by decide) rfl rfl (lw_c27 (by decide) (by decide) hL hk X T S I (s_drawn (G := Z.1) I (xs (6 * k + 1)) (xs (6 * k + 2)) (xs (6 * k + 3))) K)
  · refine r_tsin X 1048 dL_law_33 (by decide) (by decide) rfl rfl ?_
    rcases s_image (G := Z.1) I (xs (6 * k + 1)) with P | P
    · exact lw_c28 (by decide) (by decide) hL hk X T S I P K
    · exact lw_c28 (by decide) (by decide) hL hk X T S I P K
  · refine r_tsin X 1071 dL_law_33 (by decide) (by decide) rfl rfl ?_
    rcases s_restore (G := Z.1) I (xs (6 * k + 1)) with P | P
    · exact lw_c29 (by decide) (by decide) hL hk X T S I P K
    · exact lw_c29 (by decide) (by decide) hL hk X T S I P K
  · exact r_tsin X 1094 dL_law_33 (by decide) (by decide) rfl rfl (lw_c30 (by decide) (by decide) hL hk X T S I (s_kind (G := Z.1) I (xs (6 * k + 1))) K)
  · exact r_tsin X 1117 dL_law_33 (by decide) (by decide) rfl rfl (lw_c31 (by decide) (by decide) hL hk X T S I (s_as (G := Z.1) I (xs (6 * k + 1)) (xs (6 * k + 2))) K)
  · exact r_tsin X 1150 dL_law_33 (by decide) (by decide) rfl rfl (lw_c32 (by decide) (by decide) hL hk X T S I (s_ask (G := Z.1) I (xs (6 * k + 1)) (xs (6 * k + 2))) K)
  · exact r_tsin X 1183 dL_law_33 (by decide) (by decide) rfl rfl (lw_c33 (by decide) (by decide) hL hk X T S I (s_trace (G := Z.1) I (xs (6 * k + 1))) K)
  · exact r_tsin X 1206 dL_law_33 (by decide) (by decide) rfl rfl (lw_c34 (by decide) (by decide) hL hk X T S I (s_count (G := Z.1) I (xs (6 * k + 1))) K)
  · exact r_tsin X 1229 dL_law_33 (by decide) (by decide) rfl rfl (lw_c35 (by decide) (by decide) hL hk X T S I (s_status (G := Z.1) I ) K)
  · exact r_tsout X 1242 dL_law_33 (Or.inr (by rw [nI_toInt (by omega)]; omega)) rfl (K h I)
set_option maxRecDepth 20000 in
set_option maxHeartbeats 4000000 in
theorem lw_loop {Z : mZ} {t b L x mb : Nat} {xs : Nat → Int32} (hL : L ≤ 3072) (X : mCx Z RL cL_law 4 10) (T : mCt Z t) (S : mSc Z b L xs) (E : mLw Z b) : ∀ n k, L < 6 * (k + n) → 6 * k ≤ 4000 → ∀ h, INV h x mb → SW Z 18 [(0, .ref b), (1, .ref x), (2, .ref mb), (3, .int (nI (6 * k)))] [] h := by
  intro n
  induction n with
  | zero =>
    intro k h1 h2 h I
    refine r_iload_n X 3 dL_law_18 rfl ?_
    refine r_aload_n X 0 dL_law_19 rfl ?_
    refine r_slen X S dL_law_20 ?_
    refine r_bipush X (nI 6) dL_law_21 (by decide) ?_
    refine r_isub X dL_law_23 ?_
    refine r_icmp_gt X 1248 dL_law_24 rfl (fun _ => ?_) (fun q => absurd (in6 hL h2 q) (by omega))
    refine r_iconst X 1 dL_law_1248 (by decide) ?_
    exact r_lwend X E dL_law_1249
  | succ n ih =>
    intro k h1 h2 h I
    refine r_iload_n X 3 dL_law_18 rfl ?_
    refine r_aload_n X 0 dL_law_19 rfl ?_
    refine r_slen X S dL_law_20 ?_
    refine r_bipush X (nI 6) dL_law_21 (by decide) ?_
    refine r_isub X dL_law_23 ?_
    refine r_icmp_gt X 1248 dL_law_24 rfl (fun _ => ?_) (fun q => ?_)
    · refine r_iconst X 1 dL_law_1248 (by decide) ?_
      exact r_lwend X E dL_law_1249
    · have hk := in6 hL h2 q
      refine r_aload_n X 0 dL_law_27 rfl ?_
      refine r_iload_n X 3 dL_law_28 rfl ?_
      refine r_scr X S (by omega) hL dL_law_29 ?_
      refine r_bipush X 63 dL_law_30 (by decide) ?_
      refine r_iand X dL_law_32 ?_
      refine lw_sw hL hk X T S I (fun h9 I9 => ?_) _
      refine r_iinc [(0, .ref b), (1, .ref x), (2, .ref mb), (3, .int (nI (6 * (k + 1))))] X (nI (6 * (k + 1))) 3 dL_law_1242 rfl (by rw [show Int32.ofInt 6 = nI 6 by decide, nI_add]; rfl) (by decide) rfl ?_
      exact r_goto X 18 dL_law_1245 rfl (ih (k + 1) (by omega) (by omega) h9 I9)
set_option maxRecDepth 20000 in
set_option maxHeartbeats 4000000 in
theorem lw_body {Z : mZ} {t b L N0 : Nat} {xs : Nat → Int32} {h : mHp} (hL : L ≤ 3072) (X : mCx Z RL cL_law 4 10) (A : mAl Z N0 600000 7302250 0 0) (O : mCo Z) (T : mCt Z t) (S : mSc Z b L xs) (E : mLw Z b) : SW Z 0 [(0, .ref b)] [] h := by
  refine r_newo X A tyX7 tyX7_ok (ci := 7) (fs := [.null, .null, .null, .null, .null, .null, .null, .null, .null, .int 0, .int 0, .long 0, .int 0]) rfl inG7 (wG 94 (by decide +kernel) (by decide +kernel)) (wG 95 (by decide +kernel) (by decide +kernel)) kn_RX7 (by decide) (Or.inl rfl) (by decide) (by decide) dL_law_0 ?_
  have X := mCx.g1 (k := 13) X A (by decide) (by decide)
  have O := mCo.g1 (k := 13) O
  have T := mCt.g1 (k := 13) T
  have S := mSc.g1 (k := 13) S
  have E := mLw.g1 (k := 13) E
  have A : mAl _ N0 600000 7302250 1 13 := mAl.g1 (k := 13) A
  refine r_dup X dL_law_3 rfl ?_
  have hd : (va_up h N0 (some (.inr (7, [.null, .null, .null, .null, .null, .null, .null, .null, .null, .int 0, .int 0, .long 0, .int 0])))) N0 = some (.inr (7, [.null, .null, .null, .null, .null, .null, .null, .null, .null, .int 0, .int 0, .long 0, .int 0])) := vu_self
  refine r_invI X A O (k0 := 3) (kc := 324) (ks := 7582) (As := []) (wG 96 (by decide +kernel) (by decide +kernel)) ki_X7_init kn_RX7 kc_X7_init rfl ⟨by decide, by decide, by decide⟩ (by decide) (by decide) dL_law_4 rfl (Nat.le_of_ble_eq_true rfl) (Or.inr ⟨_, hd⟩) (by decide) (by decide) (c_init7 hd) ?_
  clear hd
  have X := mCx.gk (k := 324) (j := 7582) X A (by decide) (by decide)
  have O := mCo.gk (k := 324) (j := 7582) O
  have T := mCt.gk (k := 324) (j := 7582) T
  have S := mSc.gk (k := 324) (j := 7582) S
  have E := mLw.gk (k := 324) (j := 7582) E
  have A : mAl _ N0 600000 7302250 325 7595 := mAl.gk (k := 324) (j := 7582) A
  refine r_astore_n [(0, .ref b), (1, .ref N0)] X dL_law_7 rfl (by decide) rfl ?_
  generalize va_up h N0 (some (.inr (7, [.null, .null, .null, .null, .null, .null, .null, .null, .null, .int 0, .int 0, .long 0, .int 0]))) = h0
  refine r_newo X A tyX8 tyX8_ok (ci := 8) (fs := [.null, .null, .null, .null, .int 0, .null, .int 0, .int 0, .int 0, .int 0, .int 0, .int 0, .int 0, .null, .null, .null, .null, .int 0, .null, .null, .null, .null, .null, .null, .int 0, .long 0, .int 0, .null, .null, .null, .int 0]) rfl inG8 (wG 988 (by decide +kernel) (by decide +kernel)) (wG 989 (by decide +kernel) (by decide +kernel)) kn_RX8 (by decide) (Or.inr ⟨_, isV_ov (d := N0) (Or.inr (show N0 + 1 ≤ N0 + 323 by omega)) (ov_isV (d := N0 + 323)) 1 _ rfl⟩) (by decide) (by decide) dL_law_8 ?_
  have X := mCx.g1 (k := 31) X A (by decide) (by decide)
  have O := mCo.g1 (k := 31) O
  have T := mCt.g1 (k := 31) T
  have S := mSc.g1 (k := 31) S
  have E := mLw.g1 (k := 31) E
  have A : mAl _ N0 600000 7302250 326 7626 := mAl.g1 (k := 31) A
  refine r_dup X dL_law_11 rfl ?_
  have hd : (va_up (uhZ h0 N0) (N0 + 325) (some (.inr (8, [.null, .null, .null, .null, .int 0, .null, .int 0, .int 0, .int 0, .int 0, .int 0, .int 0, .int 0, .null, .null, .null, .null, .int 0, .null, .null, .null, .null, .null, .null, .int 0, .long 0, .int 0, .null, .null, .null, .int 0])))) (N0 + 325) = some (.inr (8, [.null, .null, .null, .null, .int 0, .null, .int 0, .int 0, .int 0, .int 0, .int 0, .int 0, .int 0, .null, .null, .null, .null, .int 0, .null, .null, .null, .null, .null, .null, .int 0, .long 0, .int 0, .null, .null, .null, .int 0])) := vu_self
  refine r_invI X A O (k0 := 1) (kc := 18) (ks := 10955) (As := []) (wG 990 (by decide +kernel) (by decide +kernel)) ki_X8_init kn_RX8 kc_X8_init rfl ⟨by decide, by decide, by decide⟩ (by decide) (by decide) dL_law_12 rfl (Nat.le_of_ble_eq_true rfl) (Or.inr ⟨_, hd⟩) (by decide) (by decide) (c_init8 hd) ?_
  clear hd
  have X := mCx.gk (k := 18) (j := 10955) X A (by decide) (by decide)
  have T := mCt.gk (k := 18) (j := 10955) T
  have S := mSc.gk (k := 18) (j := 10955) S
  have E := mLw.gk (k := 18) (j := 10955) E
  refine SW.heq (h2 := ov (uhZ h0 N0) (N0 + 325) (modZ (N0 + 325))) ov_va ?_
  refine r_astore_n [(0, .ref b), (1, .ref N0), (2, .ref (N0 + 325))] X dL_law_15 rfl (by decide) rfl ?_
  refine r_iconst X (nI (6 * 0)) dL_law_16 (by decide) ?_
  refine r_istore_n [(0, .ref b), (1, .ref N0), (2, .ref (N0 + 325)), (3, .int (nI (6 * 0)))] X dL_law_17 rfl (by decide) rfl ?_
  exact lw_loop hL X T S E 513 0 (by omega) (by omega) _ (startINV (Nat.le_refl _))
