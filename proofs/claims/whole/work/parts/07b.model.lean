theorem digit_lt {tape : Nat → Int32} {taped k : Nat} (ht : taped ≤ 120) (hk : k ≤ taped) (h : ¬ f_Model_in (f_Model_byteAt tape taped k) 48 57 = 0) : k < taped := by
  rcases Nat.lt_or_ge k taped with q | q
  · exact q
  · refine absurd ?_ h
    have e : f_Model_byteAt tape taped k = -1 := by
      unfold f_Model_byteAt
      rw [if_neg (nI_nlt q (by omega))]
    rw [e]
    decide
theorem byte_lt {tape : Nat → Int32} {taped k : Nat} (ht : taped ≤ 120) (hk : k ≤ taped) (h : ¬ f_Model_byteAt tape taped k < 0) : k < taped := by
  rcases Nat.lt_or_ge k taped with q | q
  · exact q
  · refine absurd ?_ h
    have e : f_Model_byteAt tape taped k = -1 := by
      unfold f_Model_byteAt
      rw [if_neg (nI_nlt q (by omega))]
    rw [e]
    decide

def f_Model_advances_L38 (tape : Nat → Int32) (taped : Nat) (mst : Nat) : Nat → Nat → Int32 → Nat × Int32
  | 0, matv, mvalv => (matv, mvalv)
  | n + 1, matv, mvalv => (if (f_Model_in (f_Model_byteAt tape taped matv) (48 : Int32) (57 : Int32)) = (0 : Int32) then (matv, mvalv) else f_Model_advances_L38 tape taped mst n (matv + 1) (if (nI (matv - mst)) < (2 : Int32) then (((10 : Int32) * mvalv) + (f_Model_byteAt tape taped matv)) - (48 : Int32) else mvalv))
def f_Model_advances (tape : Nat → Int32) (taped : Nat) (mat : Nat) : Nat × Nat × Int32 × Int32 := (if (f_Model_in (f_Model_byteAt tape taped mat) (48 : Int32) (57 : Int32)) = (0 : Int32) then (mat + (if (if (f_Model_byteAt tape taped mat) < (0 : Int32) then (0 : Int32) else if (f_Model_in (f_Model_byteAt tape taped mat) (97 : Int32) (122 : Int32)) = (0 : Int32) then if (f_Model_byteAt tape taped mat) = (44 : Int32) then (3 : Int32) else if (f_Model_byteAt tape taped mat) = (59 : Int32) then (4 : Int32) else (5 : Int32) else (1 : Int32)) = (0 : Int32) then 0 else 1), mat, if (f_Model_byteAt tape taped mat) < (0 : Int32) then (0 : Int32) else if (f_Model_in (f_Model_byteAt tape taped mat) (97 : Int32) (122 : Int32)) = (0 : Int32) then if (f_Model_byteAt tape taped mat) = (44 : Int32) then (3 : Int32) else if (f_Model_byteAt tape taped mat) = (59 : Int32) then (4 : Int32) else (5 : Int32) else (1 : Int32), (f_Model_byteAt tape taped mat)) else ((fun q1 => (q1.1, mat, if (nI (q1.1 - mat)) < (3 : Int32) then (2 : Int32) else (5 : Int32), q1.2)) (f_Model_advances_L38 tape taped mat (taped + 1) mat (0 : Int32))))
set_option maxRecDepth 20000 in
set_option maxHeartbeats 4000000 in
theorem c_Model_advances {G : mG} {h : mHp} {b : Nat} {lane : Nat → Int32} {many : Nat → Nat} {items : Nat → Int32} {spare : Nat → Int32} {stat : Int32} {tape : Nat → Int32} {taped : Nat} {fk : Int32} {fp : Int32} {mat : Nat} {mst : Nat} {tok : Int32} {mval : Int32} {W : Nat → Nat → Int32} {past : Nat → Int32} {nac : Nat} {imgs : Nat → Int32} {kept : Nat → Int32} {gvn : Nat → Int32} {costs : Nat → Int32} {lst : Nat → Int32} {sets : Nat → Int32} {bst : Int32} {mlo : Int64} {mal : Int32} {mpr : Nat → Int64} {lak : Nat → Int64} {trc : Nat → Int32} {ntr : Nat}   (ht : taped ≤ 120) (hma : mat ≤ taped) : Ret G 1 mX8_advances [.ref b] (ov h b (modL b lane many items spare stat tape taped fk fp mat mst tok mval W past nac imgs kept gvn costs lst sets bst mlo mal mpr lak trc ntr)) none (ov h b (modL b lane many items spare stat tape taped fk fp (f_Model_advances tape taped mat).1 (f_Model_advances tape taped mat).2.1 (f_Model_advances tape taped mat).2.2.1 (f_Model_advances tape taped mat).2.2.2 W past nac imgs kept gvn costs lst sets bst mlo mal mpr lak trc ntr)) := by
  generalize hf : f_Model_advances tape taped mat = R
  unfold f_Model_advances at hf
  refine Ret.of [(0, .ref b)] (by decide) (Nat.le_of_ble_eq_true rfl) rfl ?_
  rintro Z rfl X Y
  have hv_b : isV (ov h b (modL b lane many items spare stat tape taped fk fp mat mst tok mval W past nac imgs kept gvn costs lst sets bst mlo mal mpr lak trc ntr)) b (modL b lane many items spare stat tape taped fk fp mat mst tok mval W past nac imgs kept gvn costs lst sets bst mlo mal mpr lak trc ntr) := ov_isV
  refine r_aload_n X 0 dX8_advances_0 rfl ?_
  refine r_aload_n X 0 dX8_advances_1 rfl ?_
  refine gf_X8_102 X dX8_advances_2 (hv_b 0 _ rfl) rfl ?_
  refine pf_X8_105 X dX8_advances_5 (hv_b 0 _ rfl) (Nat.le_of_ble_eq_true rfl) ?_
  refine SW.heq (h2 := (ov h b (modL b lane many items spare stat tape taped fk fp mat mat tok mval W past nac imgs kept gvn costs lst sets bst mlo mal mpr lak trc ntr))) (ov_up 0 (Nat.le_of_ble_eq_true rfl) rfl) ?_
  have hv_b : isV (ov h b (modL b lane many items spare stat tape taped fk fp mat mat tok mval W past nac imgs kept gvn costs lst sets bst mlo mal mpr lak trc ntr)) b (modL b lane many items spare stat tape taped fk fp mat mat tok mval W past nac imgs kept gvn costs lst sets bst mlo mal mpr lak trc ntr) := ov_isV
  refine r_aload_n X 0 dX8_advances_8 rfl ?_
  refine r_aload_n X 0 dX8_advances_9 rfl ?_
  refine gf_X8_102 X dX8_advances_10 (hv_b 0 _ rfl) rfl ?_
  refine cl_X8_108 X (by decide) dX8_advances_13 (Nat.le_of_ble_eq_true rfl) (hv_b 0 _ rfl) (c_Model_byteAt hv_b (by first | assumption | omega) (by first | assumption | omega)) ?_
  refine r_istore_n [(0, .ref b), (1, .int (f_Model_byteAt tape taped mat))] X dX8_advances_16 rfl (by decide) rfl ?_
  refine r_aload_n X 0 dX8_advances_17 rfl ?_
  refine r_iload_n X 1 dX8_advances_18 rfl ?_
  refine pf_X8_111 X dX8_advances_19 (hv_b 0 _ rfl) (Nat.le_of_ble_eq_true rfl) ?_
  refine SW.heq (h2 := (ov h b (modL b lane many items spare stat tape taped fk fp mat mat tok (f_Model_byteAt tape taped mat) W past nac imgs kept gvn costs lst sets bst mlo mal mpr lak trc ntr))) (ov_up 0 (Nat.le_of_ble_eq_true rfl) rfl) ?_
  have hv_b : isV (ov h b (modL b lane many items spare stat tape taped fk fp mat mat tok (f_Model_byteAt tape taped mat) W past nac imgs kept gvn costs lst sets bst mlo mal mpr lak trc ntr)) b (modL b lane many items spare stat tape taped fk fp mat mat tok (f_Model_byteAt tape taped mat) W past nac imgs kept gvn costs lst sets bst mlo mal mpr lak trc ntr) := ov_isV
  refine r_iload_n X 1 dX8_advances_22 rfl ?_
  refine r_bipush X (48 : Int32) dX8_advances_23 (by decide) ?_
  refine r_bipush X (57 : Int32) dX8_advances_25 (by decide) ?_
  refine cl_X8_72 X (by decide) dX8_advances_27 (Nat.le_of_ble_eq_true rfl) (c_Model_in  ) ?_
  refine r_if_eq X 135 dX8_advances_30 rfl (fun c1 => ?_) (fun c1 => ?_)
  · rw [if_pos c1] at hf
    refine r_aload_n X 0 dX8_advances_135 rfl ?_
    refine r_iload_n X 1 dX8_advances_136 rfl ?_
    refine m_join (P := SW Z 180 [(0, .ref b)] [.int (if (f_Model_byteAt tape taped mat) < (0 : Int32) then (0 : Int32) else if (f_Model_in (f_Model_byteAt tape taped mat) (97 : Int32) (122 : Int32)) = (0 : Int32) then if (f_Model_byteAt tape taped mat) = (44 : Int32) then (3 : Int32) else if (f_Model_byteAt tape taped mat) = (59 : Int32) then (4 : Int32) else (5 : Int32) else (1 : Int32)), .ref b] (ov h b (modL b lane many items spare stat tape taped fk fp mat mat tok (f_Model_byteAt tape taped mat) W past nac imgs kept gvn costs lst sets bst mlo mal mpr lak trc ntr))) (fun K => ?_) ?_
    · refine r_if_ge X 144 dX8_advances_137 rfl (fun c2 => ?_) (fun c2 => ?_)
      · skip
        refine r_iload_n X 1 dX8_advances_144 rfl ?_
        refine r_bipush X (97 : Int32) dX8_advances_145 (by decide) ?_
        refine r_bipush X (122 : Int32) dX8_advances_147 (by decide) ?_
        refine cl_X8_72 X (by decide) dX8_advances_149 (Nat.le_of_ble_eq_true rfl) (c_Model_in  ) ?_
        refine m_join (P := SW Z 180 [(0, .ref b)] [.int (if (f_Model_in (f_Model_byteAt tape taped mat) (97 : Int32) (122 : Int32)) = (0 : Int32) then if (f_Model_byteAt tape taped mat) = (44 : Int32) then (3 : Int32) else if (f_Model_byteAt tape taped mat) = (59 : Int32) then (4 : Int32) else (5 : Int32) else (1 : Int32)), .ref b] (ov h b (modL b lane many items spare stat tape taped fk fp mat mat tok (f_Model_byteAt tape taped mat) W past nac imgs kept gvn costs lst sets bst mlo mal mpr lak trc ntr))) (fun K => ?_) ?_
        · refine r_if_eq X 159 dX8_advances_152 rfl (fun c3 => ?_) (fun c3 => ?_)
          · skip
            refine r_iload_n X 1 dX8_advances_159 rfl ?_
            refine r_bipush X (44 : Int32) dX8_advances_160 (by decide) ?_
            refine m_join (P := SW Z 180 [(0, .ref b)] [.int (if (f_Model_byteAt tape taped mat) = (44 : Int32) then (3 : Int32) else if (f_Model_byteAt tape taped mat) = (59 : Int32) then (4 : Int32) else (5 : Int32)), .ref b] (ov h b (modL b lane many items spare stat tape taped fk fp mat mat tok (f_Model_byteAt tape taped mat) W past nac imgs kept gvn costs lst sets bst mlo mal mpr lak trc ntr))) (fun K => ?_) ?_
            · refine r_icmp_ne X 169 dX8_advances_162 rfl (fun c4 => ?_) (fun c4 => ?_)
              · skip
                refine r_iload_n X 1 dX8_advances_169 rfl ?_
                refine r_bipush X (59 : Int32) dX8_advances_170 (by decide) ?_
                refine m_join (P := SW Z 180 [(0, .ref b)] [.int (if (f_Model_byteAt tape taped mat) = (59 : Int32) then (4 : Int32) else (5 : Int32)), .ref b] (ov h b (modL b lane many items spare stat tape taped fk fp mat mat tok (f_Model_byteAt tape taped mat) W past nac imgs kept gvn costs lst sets bst mlo mal mpr lak trc ntr))) (fun K => ?_) ?_
                · refine r_icmp_ne X 179 dX8_advances_172 rfl (fun c5 => ?_) (fun c5 => ?_)
                  · skip
                    refine r_iconst X (5 : Int32) dX8_advances_179 (by decide) ?_
                    refine SW.pick [0] [(0, .ref b)] rfl ?_
                    try simp only [if_neg c5] at K ⊢
                    exact K
                  · skip
                    refine r_iconst X (4 : Int32) dX8_advances_175 (by decide) ?_
                    refine r_goto X 180 dX8_advances_176 rfl ?_
                    refine SW.pick [0] [(0, .ref b)] rfl ?_
                    try simp only [if_pos c5] at K ⊢
                    exact K
                have hv_b : isV (ov h b (modL b lane many items spare stat tape taped fk fp mat mat tok (f_Model_byteAt tape taped mat) W past nac imgs kept gvn costs lst sets bst mlo mal mpr lak trc ntr)) b (modL b lane many items spare stat tape taped fk fp mat mat tok (f_Model_byteAt tape taped mat) W past nac imgs kept gvn costs lst sets bst mlo mal mpr lak trc ntr) := ov_isV
                try simp only [if_neg c4] at K ⊢
                exact K
              · skip
                refine r_iconst X (3 : Int32) dX8_advances_165 (by decide) ?_
                refine r_goto X 180 dX8_advances_166 rfl ?_
                refine SW.pick [0] [(0, .ref b)] rfl ?_
                try simp only [if_pos c4] at K ⊢
                exact K
            have hv_b : isV (ov h b (modL b lane many items spare stat tape taped fk fp mat mat tok (f_Model_byteAt tape taped mat) W past nac imgs kept gvn costs lst sets bst mlo mal mpr lak trc ntr)) b (modL b lane many items spare stat tape taped fk fp mat mat tok (f_Model_byteAt tape taped mat) W past nac imgs kept gvn costs lst sets bst mlo mal mpr lak trc ntr) := ov_isV
            try simp only [if_pos c3] at K ⊢
            exact K
          · skip
            refine r_iconst X (1 : Int32) dX8_advances_155 (by decide) ?_
            refine r_goto X 180 dX8_advances_156 rfl ?_
            refine SW.pick [0] [(0, .ref b)] rfl ?_
            try simp only [if_neg c3] at K ⊢
            exact K
        have hv_b : isV (ov h b (modL b lane many items spare stat tape taped fk fp mat mat tok (f_Model_byteAt tape taped mat) W past nac imgs kept gvn costs lst sets bst mlo mal mpr lak trc ntr)) b (modL b lane many items spare stat tape taped fk fp mat mat tok (f_Model_byteAt tape taped mat) W past nac imgs kept gvn costs lst sets bst mlo mal mpr lak trc ntr) := ov_isV
        try simp only [if_neg c2] at K ⊢
        exact K
      · skip
        refine r_iconst X (0 : Int32) dX8_advances_140 (by decide) ?_
        refine r_goto X 180 dX8_advances_141 rfl ?_
        refine SW.pick [0] [(0, .ref b)] rfl ?_
        try simp only [if_pos c2] at K ⊢
        exact K
    have hv_b : isV (ov h b (modL b lane many items spare stat tape taped fk fp mat mat tok (f_Model_byteAt tape taped mat) W past nac imgs kept gvn costs lst sets bst mlo mal mpr lak trc ntr)) b (modL b lane many items spare stat tape taped fk fp mat mat tok (f_Model_byteAt tape taped mat) W past nac imgs kept gvn costs lst sets bst mlo mal mpr lak trc ntr) := ov_isV
    refine pf_X8_114 X dX8_advances_180 (hv_b 0 _ rfl) (Nat.le_of_ble_eq_true rfl) ?_
    refine SW.heq (h2 := (ov h b (modL b lane many items spare stat tape taped fk fp mat mat (if (f_Model_byteAt tape taped mat) < (0 : Int32) then (0 : Int32) else if (f_Model_in (f_Model_byteAt tape taped mat) (97 : Int32) (122 : Int32)) = (0 : Int32) then if (f_Model_byteAt tape taped mat) = (44 : Int32) then (3 : Int32) else if (f_Model_byteAt tape taped mat) = (59 : Int32) then (4 : Int32) else (5 : Int32) else (1 : Int32)) (f_Model_byteAt tape taped mat) W past nac imgs kept gvn costs lst sets bst mlo mal mpr lak trc ntr))) (ov_up 0 (Nat.le_of_ble_eq_true rfl) rfl) ?_
    have hv_b : isV (ov h b (modL b lane many items spare stat tape taped fk fp mat mat (if (f_Model_byteAt tape taped mat) < (0 : Int32) then (0 : Int32) else if (f_Model_in (f_Model_byteAt tape taped mat) (97 : Int32) (122 : Int32)) = (0 : Int32) then if (f_Model_byteAt tape taped mat) = (44 : Int32) then (3 : Int32) else if (f_Model_byteAt tape taped mat) = (59 : Int32) then (4 : Int32) else (5 : Int32) else (1 : Int32)) (f_Model_byteAt tape taped mat) W past nac imgs kept gvn costs lst sets bst mlo mal mpr lak trc ntr)) b (modL b lane many items spare stat tape taped fk fp mat mat (if (f_Model_byteAt tape taped mat) < (0 : Int32) then (0 : Int32) else if (f_Model_in (f_Model_byteAt tape taped mat) (97 : Int32) (122 : Int32)) = (0 : Int32) then if (f_Model_byteAt tape taped mat) = (44 : Int32) then (3 : Int32) else if (f_Model_byteAt tape taped mat) = (59 : Int32) then (4 : Int32) else (5 : Int32) else (1 : Int32)) (f_Model_byteAt tape taped mat) W past nac imgs kept gvn costs lst sets bst mlo mal mpr lak trc ntr) := ov_isV
    refine r_aload_n X 0 dX8_advances_183 rfl ?_
    refine r_dup X dX8_advances_184 rfl ?_
    refine gf_X8_102 X dX8_advances_185 (hv_b 0 _ rfl) rfl ?_
    refine r_aload_n X 0 dX8_advances_188 rfl ?_
    refine gf_X8_114 X dX8_advances_189 (hv_b 0 _ rfl) rfl ?_
    refine m_join (P := SW Z 200 [] [.int (nI (if (if (f_Model_byteAt tape taped mat) < (0 : Int32) then (0 : Int32) else if (f_Model_in (f_Model_byteAt tape taped mat) (97 : Int32) (122 : Int32)) = (0 : Int32) then if (f_Model_byteAt tape taped mat) = (44 : Int32) then (3 : Int32) else if (f_Model_byteAt tape taped mat) = (59 : Int32) then (4 : Int32) else (5 : Int32) else (1 : Int32)) = (0 : Int32) then 0 else 1)), .int (nI mat), .ref b] (ov h b (modL b lane many items spare stat tape taped fk fp mat mat (if (f_Model_byteAt tape taped mat) < (0 : Int32) then (0 : Int32) else if (f_Model_in (f_Model_byteAt tape taped mat) (97 : Int32) (122 : Int32)) = (0 : Int32) then if (f_Model_byteAt tape taped mat) = (44 : Int32) then (3 : Int32) else if (f_Model_byteAt tape taped mat) = (59 : Int32) then (4 : Int32) else (5 : Int32) else (1 : Int32)) (f_Model_byteAt tape taped mat) W past nac imgs kept gvn costs lst sets bst mlo mal mpr lak trc ntr))) (fun K => ?_) ?_
    · refine r_if_ne X 199 dX8_advances_192 rfl (fun c6 => ?_) (fun c6 => ?_)
      · skip
        refine r_iconst X (1 : Int32) dX8_advances_199 (by decide) ?_
        refine SW.pick [] [] rfl ?_
        try simp only [if_neg c6] at K ⊢
        exact K
      · skip
        refine r_iconst X (0 : Int32) dX8_advances_195 (by decide) ?_
        refine r_goto X 200 dX8_advances_196 rfl ?_
        refine SW.pick [] [] rfl ?_
        try simp only [if_pos c6] at K ⊢
        exact K
    have hv_b : isV (ov h b (modL b lane many items spare stat tape taped fk fp mat mat (if (f_Model_byteAt tape taped mat) < (0 : Int32) then (0 : Int32) else if (f_Model_in (f_Model_byteAt tape taped mat) (97 : Int32) (122 : Int32)) = (0 : Int32) then if (f_Model_byteAt tape taped mat) = (44 : Int32) then (3 : Int32) else if (f_Model_byteAt tape taped mat) = (59 : Int32) then (4 : Int32) else (5 : Int32) else (1 : Int32)) (f_Model_byteAt tape taped mat) W past nac imgs kept gvn costs lst sets bst mlo mal mpr lak trc ntr)) b (modL b lane many items spare stat tape taped fk fp mat mat (if (f_Model_byteAt tape taped mat) < (0 : Int32) then (0 : Int32) else if (f_Model_in (f_Model_byteAt tape taped mat) (97 : Int32) (122 : Int32)) = (0 : Int32) then if (f_Model_byteAt tape taped mat) = (44 : Int32) then (3 : Int32) else if (f_Model_byteAt tape taped mat) = (59 : Int32) then (4 : Int32) else (5 : Int32) else (1 : Int32)) (f_Model_byteAt tape taped mat) W past nac imgs kept gvn costs lst sets bst mlo mal mpr lak trc ntr) := ov_isV
    refine r_iaddn X (a := mat) (b := (if (if (f_Model_byteAt tape taped mat) < (0 : Int32) then (0 : Int32) else if (f_Model_in (f_Model_byteAt tape taped mat) (97 : Int32) (122 : Int32)) = (0 : Int32) then if (f_Model_byteAt tape taped mat) = (44 : Int32) then (3 : Int32) else if (f_Model_byteAt tape taped mat) = (59 : Int32) then (4 : Int32) else (5 : Int32) else (1 : Int32)) = (0 : Int32) then 0 else 1)) dX8_advances_200 ?_
    refine pf_X8_102 X dX8_advances_201 (hv_b 0 _ rfl) (Nat.le_of_ble_eq_true rfl) ?_
    refine SW.heq (h2 := (ov h b (modL b lane many items spare stat tape taped fk fp (mat + (if (if (f_Model_byteAt tape taped mat) < (0 : Int32) then (0 : Int32) else if (f_Model_in (f_Model_byteAt tape taped mat) (97 : Int32) (122 : Int32)) = (0 : Int32) then if (f_Model_byteAt tape taped mat) = (44 : Int32) then (3 : Int32) else if (f_Model_byteAt tape taped mat) = (59 : Int32) then (4 : Int32) else (5 : Int32) else (1 : Int32)) = (0 : Int32) then 0 else 1)) mat (if (f_Model_byteAt tape taped mat) < (0 : Int32) then (0 : Int32) else if (f_Model_in (f_Model_byteAt tape taped mat) (97 : Int32) (122 : Int32)) = (0 : Int32) then if (f_Model_byteAt tape taped mat) = (44 : Int32) then (3 : Int32) else if (f_Model_byteAt tape taped mat) = (59 : Int32) then (4 : Int32) else (5 : Int32) else (1 : Int32)) (f_Model_byteAt tape taped mat) W past nac imgs kept gvn costs lst sets bst mlo mal mpr lak trc ntr))) (ov_up 0 (Nat.le_of_ble_eq_true rfl) rfl) ?_
    have hv_b : isV (ov h b (modL b lane many items spare stat tape taped fk fp (mat + (if (if (f_Model_byteAt tape taped mat) < (0 : Int32) then (0 : Int32) else if (f_Model_in (f_Model_byteAt tape taped mat) (97 : Int32) (122 : Int32)) = (0 : Int32) then if (f_Model_byteAt tape taped mat) = (44 : Int32) then (3 : Int32) else if (f_Model_byteAt tape taped mat) = (59 : Int32) then (4 : Int32) else (5 : Int32) else (1 : Int32)) = (0 : Int32) then 0 else 1)) mat (if (f_Model_byteAt tape taped mat) < (0 : Int32) then (0 : Int32) else if (f_Model_in (f_Model_byteAt tape taped mat) (97 : Int32) (122 : Int32)) = (0 : Int32) then if (f_Model_byteAt tape taped mat) = (44 : Int32) then (3 : Int32) else if (f_Model_byteAt tape taped mat) = (59 : Int32) then (4 : Int32) else (5 : Int32) else (1 : Int32)) (f_Model_byteAt tape taped mat) W past nac imgs kept gvn costs lst sets bst mlo mal mpr lak trc ntr)) b (modL b lane many items spare stat tape taped fk fp (mat + (if (if (f_Model_byteAt tape taped mat) < (0 : Int32) then (0 : Int32) else if (f_Model_in (f_Model_byteAt tape taped mat) (97 : Int32) (122 : Int32)) = (0 : Int32) then if (f_Model_byteAt tape taped mat) = (44 : Int32) then (3 : Int32) else if (f_Model_byteAt tape taped mat) = (59 : Int32) then (4 : Int32) else (5 : Int32) else (1 : Int32)) = (0 : Int32) then 0 else 1)) mat (if (f_Model_byteAt tape taped mat) < (0 : Int32) then (0 : Int32) else if (f_Model_in (f_Model_byteAt tape taped mat) (97 : Int32) (122 : Int32)) = (0 : Int32) then if (f_Model_byteAt tape taped mat) = (44 : Int32) then (3 : Int32) else if (f_Model_byteAt tape taped mat) = (59 : Int32) then (4 : Int32) else (5 : Int32) else (1 : Int32)) (f_Model_byteAt tape taped mat) W past nac imgs kept gvn costs lst sets bst mlo mal mpr lak trc ntr) := ov_isV
    try subst hf
    exact r_return X Y dX8_advances_204 rfl rfl
  · rw [if_neg c1] at hf
    refine r_aload_n X 0 dX8_advances_33 rfl ?_
    refine r_iconst X (0 : Int32) dX8_advances_34 (by decide) ?_
    refine pf_X8_111 X dX8_advances_35 (hv_b 0 _ rfl) (Nat.le_of_ble_eq_true rfl) ?_
    refine SW.heq (h2 := (ov h b (modL b lane many items spare stat tape taped fk fp mat mat tok (0 : Int32) W past nac imgs kept gvn costs lst sets bst mlo mal mpr lak trc ntr))) (ov_up 0 (Nat.le_of_ble_eq_true rfl) rfl) ?_
    have hv_b : isV (ov h b (modL b lane many items spare stat tape taped fk fp mat mat tok (0 : Int32) W past nac imgs kept gvn costs lst sets bst mlo mal mpr lak trc ntr)) b (modL b lane many items spare stat tape taped fk fp mat mat tok (0 : Int32) W past nac imgs kept gvn costs lst sets bst mlo mal mpr lak trc ntr) := ov_isV
    refine SW.pick [0] [(0, .ref b)] rfl ?_
    have wl8 : ∀ (n_ : Nat) (matv : Nat) (mvalv : Int32), (mat ≤ matv ∧ matv ≤ taped) → (taped - matv) < n_ → ((mat ≤ ((f_Model_advances_L38 tape taped mat n_ matv mvalv).1) ∧ ((f_Model_advances_L38 tape taped mat n_ matv mvalv).1) ≤ taped) → SW Z 112 [(0, .ref b)] [] (ov h b (modL b lane many items spare stat tape taped fk fp ((f_Model_advances_L38 tape taped mat n_ matv mvalv).1) mat tok ((f_Model_advances_L38 tape taped mat n_ matv mvalv).2) W past nac imgs kept gvn costs lst sets bst mlo mal mpr lak trc ntr))) → SW Z 38 [(0, .ref b)] [] (ov h b (modL b lane many items spare stat tape taped fk fp matv mat tok mvalv W past nac imgs kept gvn costs lst sets bst mlo mal mpr lak trc ntr)) := by
      intro n_
      induction n_ with
      | zero => intro matv mvalv _ hm; exact absurd hm (Nat.not_lt_zero _)
      | succ n_ ih =>
        intro matv mvalv hi hm K
        generalize hf : f_Model_advances_L38 tape taped mat (n_ + 1) matv mvalv = Rl at K
        rw [f_Model_advances_L38] at hf
        have hv_b : isV (ov h b (modL b lane many items spare stat tape taped fk fp matv mat tok mvalv W past nac imgs kept gvn costs lst sets bst mlo mal mpr lak trc ntr)) b (modL b lane many items spare stat tape taped fk fp matv mat tok mvalv W past nac imgs kept gvn costs lst sets bst mlo mal mpr lak trc ntr) := ov_isV
        refine r_aload_n X 0 dX8_advances_38 rfl ?_
        refine r_aload_n X 0 dX8_advances_39 rfl ?_
        refine gf_X8_102 X dX8_advances_40 (hv_b 0 _ rfl) rfl ?_
        refine cl_X8_108 X (by decide) dX8_advances_43 (Nat.le_of_ble_eq_true rfl) (hv_b 0 _ rfl) (c_Model_byteAt hv_b (by first | assumption | omega) (by first | assumption | omega)) ?_
        refine r_bipush X (48 : Int32) dX8_advances_46 (by decide) ?_
        refine r_bipush X (57 : Int32) dX8_advances_48 (by decide) ?_
        refine cl_X8_72 X (by decide) dX8_advances_50 (Nat.le_of_ble_eq_true rfl) (c_Model_in  ) ?_
        refine r_if_eq X 112 dX8_advances_53 rfl (fun ct => ?_) (fun ct => ?_)
        · rw [if_pos ct] at hf
          subst hf
          exact K hi
        · rw [if_neg ct] at hf
          have hx := digit_lt ht hi.2 ct
          refine r_aload_n X 0 dX8_advances_56 rfl ?_
          refine r_aload_n X 0 dX8_advances_57 rfl ?_
          refine gf_X8_102 X dX8_advances_58 (hv_b 0 _ rfl) rfl ?_
          refine r_aload_n X 0 dX8_advances_61 rfl ?_
          refine gf_X8_105 X dX8_advances_62 (hv_b 0 _ rfl) rfl ?_
          refine r_isubn X (a := matv) (b := mat) dX8_advances_65 (by omega) ?_
          refine r_iconst X (2 : Int32) dX8_advances_66 (by decide) ?_
          refine m_join (P := SW Z 96 [(0, .ref b)] [.int (if (nI (matv - mat)) < (2 : Int32) then (((10 : Int32) * mvalv) + (f_Model_byteAt tape taped matv)) - (48 : Int32) else mvalv), .ref b] (ov h b (modL b lane many items spare stat tape taped fk fp matv mat tok mvalv W past nac imgs kept gvn costs lst sets bst mlo mal mpr lak trc ntr))) (fun K => ?_) ?_
          · refine r_icmp_ge X 92 dX8_advances_67 rfl (fun c9 => ?_) (fun c9 => ?_)
            · skip
              refine r_aload_n X 0 dX8_advances_92 rfl ?_
              refine gf_X8_111 X dX8_advances_93 (hv_b 0 _ rfl) rfl ?_
              try simp only [if_neg c9] at K ⊢
              exact K
            · skip
              refine r_bipush X (10 : Int32) dX8_advances_70 (by decide) ?_
              refine r_aload_n X 0 dX8_advances_72 rfl ?_
              refine gf_X8_111 X dX8_advances_73 (hv_b 0 _ rfl) rfl ?_
              refine r_imul X dX8_advances_76 ?_
              refine r_aload_n X 0 dX8_advances_77 rfl ?_
              refine r_aload_n X 0 dX8_advances_78 rfl ?_
              refine gf_X8_102 X dX8_advances_79 (hv_b 0 _ rfl) rfl ?_
              refine cl_X8_108 X (by decide) dX8_advances_82 (Nat.le_of_ble_eq_true rfl) (hv_b 0 _ rfl) (c_Model_byteAt hv_b (by first | assumption | omega) (by first | assumption | omega)) ?_
              refine r_iadd X dX8_advances_85 ?_
              refine r_bipush X (48 : Int32) dX8_advances_86 (by decide) ?_
              refine r_isub X dX8_advances_88 ?_
              refine r_goto X 96 dX8_advances_89 rfl ?_
              try simp only [if_pos c9] at K ⊢
              exact K
          have hv_b : isV (ov h b (modL b lane many items spare stat tape taped fk fp matv mat tok mvalv W past nac imgs kept gvn costs lst sets bst mlo mal mpr lak trc ntr)) b (modL b lane many items spare stat tape taped fk fp matv mat tok mvalv W past nac imgs kept gvn costs lst sets bst mlo mal mpr lak trc ntr) := ov_isV
          refine pf_X8_111 X dX8_advances_96 (hv_b 0 _ rfl) (Nat.le_of_ble_eq_true rfl) ?_
          refine SW.heq (h2 := (ov h b (modL b lane many items spare stat tape taped fk fp matv mat tok (if (nI (matv - mat)) < (2 : Int32) then (((10 : Int32) * mvalv) + (f_Model_byteAt tape taped matv)) - (48 : Int32) else mvalv) W past nac imgs kept gvn costs lst sets bst mlo mal mpr lak trc ntr))) (ov_up 0 (Nat.le_of_ble_eq_true rfl) rfl) ?_
          have hv_b : isV (ov h b (modL b lane many items spare stat tape taped fk fp matv mat tok (if (nI (matv - mat)) < (2 : Int32) then (((10 : Int32) * mvalv) + (f_Model_byteAt tape taped matv)) - (48 : Int32) else mvalv) W past nac imgs kept gvn costs lst sets bst mlo mal mpr lak trc ntr)) b (modL b lane many items spare stat tape taped fk fp matv mat tok (if (nI (matv - mat)) < (2 : Int32) then (((10 : Int32) * mvalv) + (f_Model_byteAt tape taped matv)) - (48 : Int32) else mvalv) W past nac imgs kept gvn costs lst sets bst mlo mal mpr lak trc ntr) := ov_isV
          refine r_aload_n X 0 dX8_advances_99 rfl ?_
          refine r_dup X dX8_advances_100 rfl ?_
          refine gf_X8_102 X dX8_advances_101 (hv_b 0 _ rfl) rfl ?_
          refine r_iconst X (1 : Int32) dX8_advances_104 (by decide) ?_
          refine r_iaddn X (a := matv) (b := 1) dX8_advances_105 ?_
          refine pf_X8_102 X dX8_advances_106 (hv_b 0 _ rfl) (Nat.le_of_ble_eq_true rfl) ?_
          refine SW.heq (h2 := (ov h b (modL b lane many items spare stat tape taped fk fp (matv + 1) mat tok (if (nI (matv - mat)) < (2 : Int32) then (((10 : Int32) * mvalv) + (f_Model_byteAt tape taped matv)) - (48 : Int32) else mvalv) W past nac imgs kept gvn costs lst sets bst mlo mal mpr lak trc ntr))) (ov_up 0 (Nat.le_of_ble_eq_true rfl) rfl) ?_
          have hv_b : isV (ov h b (modL b lane many items spare stat tape taped fk fp (matv + 1) mat tok (if (nI (matv - mat)) < (2 : Int32) then (((10 : Int32) * mvalv) + (f_Model_byteAt tape taped matv)) - (48 : Int32) else mvalv) W past nac imgs kept gvn costs lst sets bst mlo mal mpr lak trc ntr)) b (modL b lane many items spare stat tape taped fk fp (matv + 1) mat tok (if (nI (matv - mat)) < (2 : Int32) then (((10 : Int32) * mvalv) + (f_Model_byteAt tape taped matv)) - (48 : Int32) else mvalv) W past nac imgs kept gvn costs lst sets bst mlo mal mpr lak trc ntr) := ov_isV
          refine r_goto X 38 dX8_advances_109 rfl ?_
          exact ih _ _ ⟨by omega, by omega⟩ (by omega) (by rw [hf]; exact K)
    refine wl8 (taped + 1) mat (0 : Int32) ⟨Nat.le_refl _, hma⟩ (by omega) (fun hi => ?_)
    obtain ⟨q1, eq1⟩ : ∃ q, q = f_Model_advances_L38 tape taped mat (taped + 1) mat (0 : Int32) := ⟨_, rfl⟩
    rw [← eq1]
    rw [← eq1] at hf
    try dsimp only at hf
    rw [← eq1] at hi
    have hv_b : isV (ov h b (modL b lane many items spare stat tape taped fk fp q1.1 mat tok q1.2 W past nac imgs kept gvn costs lst sets bst mlo mal mpr lak trc ntr)) b (modL b lane many items spare stat tape taped fk fp q1.1 mat tok q1.2 W past nac imgs kept gvn costs lst sets bst mlo mal mpr lak trc ntr) := ov_isV
    refine r_aload_n X 0 dX8_advances_112 rfl ?_
    refine r_aload_n X 0 dX8_advances_113 rfl ?_
    refine gf_X8_102 X dX8_advances_114 (hv_b 0 _ rfl) rfl ?_
    refine r_aload_n X 0 dX8_advances_117 rfl ?_
    refine gf_X8_105 X dX8_advances_118 (hv_b 0 _ rfl) rfl ?_
    refine r_isubn X (a := q1.1) (b := mat) dX8_advances_121 (by omega) ?_
    refine r_iconst X (3 : Int32) dX8_advances_122 (by decide) ?_
    refine m_join (P := SW Z 131 [] [.int (if (nI (q1.1 - mat)) < (3 : Int32) then (2 : Int32) else (5 : Int32)), .ref b] (ov h b (modL b lane many items spare stat tape taped fk fp q1.1 mat tok q1.2 W past nac imgs kept gvn costs lst sets bst mlo mal mpr lak trc ntr))) (fun K => ?_) ?_
    · refine r_icmp_ge X 130 dX8_advances_123 rfl (fun c10 => ?_) (fun c10 => ?_)
      · skip
        refine r_iconst X (5 : Int32) dX8_advances_130 (by decide) ?_
        refine SW.pick [] [] rfl ?_
        try simp only [if_neg c10] at K ⊢
        exact K
      · skip
        refine r_iconst X (2 : Int32) dX8_advances_126 (by decide) ?_
        refine r_goto X 131 dX8_advances_127 rfl ?_
        refine SW.pick [] [] rfl ?_
        try simp only [if_pos c10] at K ⊢
        exact K
    have hv_b : isV (ov h b (modL b lane many items spare stat tape taped fk fp q1.1 mat tok q1.2 W past nac imgs kept gvn costs lst sets bst mlo mal mpr lak trc ntr)) b (modL b lane many items spare stat tape taped fk fp q1.1 mat tok q1.2 W past nac imgs kept gvn costs lst sets bst mlo mal mpr lak trc ntr) := ov_isV
    refine pf_X8_114 X dX8_advances_131 (hv_b 0 _ rfl) (Nat.le_of_ble_eq_true rfl) ?_
    refine SW.heq (h2 := (ov h b (modL b lane many items spare stat tape taped fk fp q1.1 mat (if (nI (q1.1 - mat)) < (3 : Int32) then (2 : Int32) else (5 : Int32)) q1.2 W past nac imgs kept gvn costs lst sets bst mlo mal mpr lak trc ntr))) (ov_up 0 (Nat.le_of_ble_eq_true rfl) rfl) ?_
    have hv_b : isV (ov h b (modL b lane many items spare stat tape taped fk fp q1.1 mat (if (nI (q1.1 - mat)) < (3 : Int32) then (2 : Int32) else (5 : Int32)) q1.2 W past nac imgs kept gvn costs lst sets bst mlo mal mpr lak trc ntr)) b (modL b lane many items spare stat tape taped fk fp q1.1 mat (if (nI (q1.1 - mat)) < (3 : Int32) then (2 : Int32) else (5 : Int32)) q1.2 W past nac imgs kept gvn costs lst sets bst mlo mal mpr lak trc ntr) := ov_isV
    try subst hf
    exact r_return X Y dX8_advances_134 rfl rfl

theorem advances_L_le {tape : Nat → Int32} {taped mst : Nat} (ht : taped ≤ 120) : ∀ (n m : Nat) (v : Int32), m ≤ taped → (f_Model_advances_L38 tape taped mst n m v).1 ≤ taped := by
  intro n
  induction n with
  | zero => intro m v h; exact h
  | succ n ih =>
    intro m v h
    rw [f_Model_advances_L38]
    split
    · exact h
    · rename_i c
      exact ih _ _ (digit_lt ht h c)
theorem ite01 (p : Prop) [Decidable p] : (if p then 0 else 1 : Nat) ≤ 1 := by split <;> decide
theorem advances_post {tape : Nat → Int32} {taped mat : Nat} (ht : taped ≤ 120) (h : mat ≤ taped) : (f_Model_advances tape taped mat).1 ≤ taped := by
  unfold f_Model_advances
  split
  · dsimp only
    by_cases c : f_Model_byteAt tape taped mat < 0
    · rw [if_pos c, if_pos rfl]; exact h
    · have := byte_lt ht h c
      exact Nat.le_trans (Nat.add_le_add_left (ite01 _) _) this
  · exact advances_L_le ht _ _ _ h

def f_Model_takes (tape : Nat → Int32) (taped : Nat) (fk : Int32) (fp : Int32) (mat : Nat) (mst : Nat) (tok : Int32) (mval : Int32) (z : Int32) (kd : Int32) : Int32 × Int32 × Int32 × Nat × Nat × Int32 × Int32 := (if (f_Model_isWell fp) = (0 : Int32) then ((0 : Int32), fk, fp, mat, mst, tok, mval) else (if z = (0 : Int32) then ((0 : Int32), kd, nI mst, mat, mst, tok, mval) else ((fun q1 => (mval, fk, fp, q1.1, q1.2.1, q1.2.2.1, q1.2.2.2)) (f_Model_advances tape taped mat))))
set_option maxRecDepth 20000 in
set_option maxHeartbeats 4000000 in
theorem c_Model_takes {G : mG} {h : mHp} {b : Nat} {lane : Nat → Int32} {many : Nat → Nat} {items : Nat → Int32} {spare : Nat → Int32} {stat : Int32} {tape : Nat → Int32} {taped : Nat} {fk : Int32} {fp : Int32} {mat : Nat} {mst : Nat} {tok : Int32} {mval : Int32} {W : Nat → Nat → Int32} {past : Nat → Int32} {nac : Nat} {imgs : Nat → Int32} {kept : Nat → Int32} {gvn : Nat → Int32} {costs : Nat → Int32} {lst : Nat → Int32} {sets : Nat → Int32} {bst : Int32} {mlo : Int64} {mal : Int32} {mpr : Nat → Int64} {lak : Nat → Int64} {trc : Nat → Int32} {ntr : Nat} {z : Int32} {kd : Int32}   (ht : taped ≤ 120) (hma : mat ≤ taped) : Ret G 2 mX8_takes [.ref b, .int z, .int kd] (ov h b (modL b lane many items spare stat tape taped fk fp mat mst tok mval W past nac imgs kept gvn costs lst sets bst mlo mal mpr lak trc ntr)) (some (.int (f_Model_takes tape taped fk fp mat mst tok mval z kd).1)) (ov h b (modL b lane many items spare stat tape taped (f_Model_takes tape taped fk fp mat mst tok mval z kd).2.1 (f_Model_takes tape taped fk fp mat mst tok mval z kd).2.2.1 (f_Model_takes tape taped fk fp mat mst tok mval z kd).2.2.2.1 (f_Model_takes tape taped fk fp mat mst tok mval z kd).2.2.2.2.1 (f_Model_takes tape taped fk fp mat mst tok mval z kd).2.2.2.2.2.1 (f_Model_takes tape taped fk fp mat mst tok mval z kd).2.2.2.2.2.2 W past nac imgs kept gvn costs lst sets bst mlo mal mpr lak trc ntr)) := by
  generalize hf : f_Model_takes tape taped fk fp mat mst tok mval z kd = R
  unfold f_Model_takes at hf
  refine Ret.of [(0, .ref b), (1, .int z), (2, .int kd)] (by decide) (Nat.le_of_ble_eq_true rfl) rfl ?_
  rintro Z rfl X Y
  have hv_b : isV (ov h b (modL b lane many items spare stat tape taped fk fp mat mst tok mval W past nac imgs kept gvn costs lst sets bst mlo mal mpr lak trc ntr)) b (modL b lane many items spare stat tape taped fk fp mat mst tok mval W past nac imgs kept gvn costs lst sets bst mlo mal mpr lak trc ntr) := ov_isV
  refine r_aload_n X 0 dX8_takes_0 rfl ?_
  refine cl_X8_120 X (by decide) dX8_takes_1 (Nat.le_of_ble_eq_true rfl) (hv_b 0 _ rfl) (c_Model_isWell hv_b ) ?_
  refine r_if_ne X 9 dX8_takes_4 rfl (fun c1 => ?_) (fun c1 => ?_)
  · rw [if_neg c1] at hf
    refine r_iload_n X 1 dX8_takes_9 rfl ?_
    refine r_if_ne X 28 dX8_takes_10 rfl (fun c2 => ?_) (fun c2 => ?_)
    · rw [if_neg c2] at hf
      refine r_aload_n X 0 dX8_takes_28 rfl ?_
      refine gf_X8_111 X dX8_takes_29 (hv_b 0 _ rfl) rfl ?_
      refine r_istore_n [(0, .ref b), (1, .int z), (2, .int kd), (3, .int mval)] X dX8_takes_32 rfl (by decide) rfl ?_
      refine r_aload_n X 0 dX8_takes_33 rfl ?_
      refine cl_X8_127 X (by decide) dX8_takes_34 (Nat.le_of_ble_eq_true rfl) (hv_b 0 _ rfl) (c_Model_advances  (by first | assumption | omega) (by first | assumption | omega)) ?_
      obtain ⟨q1, eq1⟩ : ∃ q, q = f_Model_advances tape taped mat := ⟨_, rfl⟩
      rw [← eq1]
      rw [← eq1] at hf
      try dsimp only at hf
      have hma_q1 : q1.1 ≤ taped := by rw [eq1]; exact advances_post (by assumption) (by assumption)
      have hv_b : isV (ov h b (modL b lane many items spare stat tape taped fk fp q1.1 q1.2.1 q1.2.2.1 q1.2.2.2 W past nac imgs kept gvn costs lst sets bst mlo mal mpr lak trc ntr)) b (modL b lane many items spare stat tape taped fk fp q1.1 q1.2.1 q1.2.2.1 q1.2.2.2 W past nac imgs kept gvn costs lst sets bst mlo mal mpr lak trc ntr) := ov_isV
      refine r_iload_n X 3 dX8_takes_37 rfl ?_
      try subst hf
      exact r_ireturn X Y dX8_takes_38 rfl rfl
    · rw [if_pos c2] at hf
      refine r_aload_n X 0 dX8_takes_13 rfl ?_
      refine r_aload_n X 0 dX8_takes_14 rfl ?_
      refine gf_X8_105 X dX8_takes_15 (hv_b 0 _ rfl) rfl ?_
      refine pf_X8_117 X dX8_takes_18 (hv_b 0 _ rfl) (Nat.le_of_ble_eq_true rfl) ?_
      refine SW.heq (h2 := (ov h b (modL b lane many items spare stat tape taped fk (nI mst) mat mst tok mval W past nac imgs kept gvn costs lst sets bst mlo mal mpr lak trc ntr))) (ov_up 0 (Nat.le_of_ble_eq_true rfl) rfl) ?_
      have hv_b : isV (ov h b (modL b lane many items spare stat tape taped fk (nI mst) mat mst tok mval W past nac imgs kept gvn costs lst sets bst mlo mal mpr lak trc ntr)) b (modL b lane many items spare stat tape taped fk (nI mst) mat mst tok mval W past nac imgs kept gvn costs lst sets bst mlo mal mpr lak trc ntr) := ov_isV
      refine r_aload_n X 0 dX8_takes_21 rfl ?_
      refine r_iload_n X 2 dX8_takes_22 rfl ?_
      refine pf_X8_124 X dX8_takes_23 (hv_b 0 _ rfl) (Nat.le_of_ble_eq_true rfl) ?_
      refine SW.heq (h2 := (ov h b (modL b lane many items spare stat tape taped kd (nI mst) mat mst tok mval W past nac imgs kept gvn costs lst sets bst mlo mal mpr lak trc ntr))) (ov_up 0 (Nat.le_of_ble_eq_true rfl) rfl) ?_
      have hv_b : isV (ov h b (modL b lane many items spare stat tape taped kd (nI mst) mat mst tok mval W past nac imgs kept gvn costs lst sets bst mlo mal mpr lak trc ntr)) b (modL b lane many items spare stat tape taped kd (nI mst) mat mst tok mval W past nac imgs kept gvn costs lst sets bst mlo mal mpr lak trc ntr) := ov_isV
      refine r_iconst X (0 : Int32) dX8_takes_26 (by decide) ?_
      try subst hf
      exact r_ireturn X Y dX8_takes_27 rfl rfl
  · rw [if_pos c1] at hf
    refine r_iconst X (0 : Int32) dX8_takes_7 (by decide) ?_
    try subst hf
    exact r_ireturn X Y dX8_takes_8 rfl rfl

theorem takes_post {tape : Nat → Int32} {taped : Nat} {fk fp : Int32} {mat mst : Nat} {tok mval z kd : Int32} (ht : taped ≤ 120) (h : mat ≤ taped) : (f_Model_takes tape taped fk fp mat mst tok mval z kd).2.2.2.1 ≤ taped := by
  unfold f_Model_takes
  (repeat' split) <;> (try dsimp only) <;> first | exact h | exact advances_post ht h

def f_Model_figure (tape : Nat → Int32) (taped : Nat) (fk : Int32) (fp : Int32) (mat : Nat) (mst : Nat) (tok : Int32) (mval : Int32) (lo : Int32) (hi : Int32) : Int32 × Int32 × Int32 × Nat × Nat × Int32 × Int32 := (if (f_Model_isWell fp) = (0 : Int32) then ((fun q1 => (q1.1, q1.2.1, q1.2.2.1, q1.2.2.2.1, q1.2.2.2.2.1, q1.2.2.2.2.2.1, q1.2.2.2.2.2.2)) (f_Model_takes tape taped fk fp mat mst tok mval (f_Model_in mval lo hi) (2 : Int32))) else (if tok = (2 : Int32) then ((fun q2 => (q2.1, q2.2.1, q2.2.2.1, q2.2.2.2.1, q2.2.2.2.2.1, q2.2.2.2.2.2.1, q2.2.2.2.2.2.2)) (f_Model_takes tape taped fk fp mat mst tok mval (f_Model_in mval lo hi) (2 : Int32))) else ((fun q3 => (q3.1, q3.2.1, q3.2.2.1, q3.2.2.2.1, q3.2.2.2.2.1, q3.2.2.2.2.2.1, q3.2.2.2.2.2.2)) (f_Model_takes tape taped fk fp mat mst tok mval (0 : Int32) (1 : Int32)))))
set_option maxRecDepth 20000 in
set_option maxHeartbeats 4000000 in
theorem c_Model_figure {G : mG} {h : mHp} {b : Nat} {lane : Nat → Int32} {many : Nat → Nat} {items : Nat → Int32} {spare : Nat → Int32} {stat : Int32} {tape : Nat → Int32} {taped : Nat} {fk : Int32} {fp : Int32} {mat : Nat} {mst : Nat} {tok : Int32} {mval : Int32} {W : Nat → Nat → Int32} {past : Nat → Int32} {nac : Nat} {imgs : Nat → Int32} {kept : Nat → Int32} {gvn : Nat → Int32} {costs : Nat → Int32} {lst : Nat → Int32} {sets : Nat → Int32} {bst : Int32} {mlo : Int64} {mal : Int32} {mpr : Nat → Int64} {lak : Nat → Int64} {trc : Nat → Int32} {ntr : Nat} {lo : Int32} {hi : Int32}   (ht : taped ≤ 120) (hma : mat ≤ taped) : Ret G 3 mX8_figure [.ref b, .int lo, .int hi] (ov h b (modL b lane many items spare stat tape taped fk fp mat mst tok mval W past nac imgs kept gvn costs lst sets bst mlo mal mpr lak trc ntr)) (some (.int (f_Model_figure tape taped fk fp mat mst tok mval lo hi).1)) (ov h b (modL b lane many items spare stat tape taped (f_Model_figure tape taped fk fp mat mst tok mval lo hi).2.1 (f_Model_figure tape taped fk fp mat mst tok mval lo hi).2.2.1 (f_Model_figure tape taped fk fp mat mst tok mval lo hi).2.2.2.1 (f_Model_figure tape taped fk fp mat mst tok mval lo hi).2.2.2.2.1 (f_Model_figure tape taped fk fp mat mst tok mval lo hi).2.2.2.2.2.1 (f_Model_figure tape taped fk fp mat mst tok mval lo hi).2.2.2.2.2.2 W past nac imgs kept gvn costs lst sets bst mlo mal mpr lak trc ntr)) := by
  generalize hf : f_Model_figure tape taped fk fp mat mst tok mval lo hi = R
  unfold f_Model_figure at hf
  refine Ret.of [(0, .ref b), (1, .int lo), (2, .int hi)] (by decide) (Nat.le_of_ble_eq_true rfl) rfl ?_
  rintro Z rfl X Y
  have hv_b : isV (ov h b (modL b lane many items spare stat tape taped fk fp mat mst tok mval W past nac imgs kept gvn costs lst sets bst mlo mal mpr lak trc ntr)) b (modL b lane many items spare stat tape taped fk fp mat mst tok mval W past nac imgs kept gvn costs lst sets bst mlo mal mpr lak trc ntr) := ov_isV
  refine r_aload_n X 0 dX8_figure_0 rfl ?_
  refine cl_X8_120 X (by decide) dX8_figure_1 (Nat.le_of_ble_eq_true rfl) (hv_b 0 _ rfl) (c_Model_isWell hv_b ) ?_
  refine r_if_eq X 22 dX8_figure_4 rfl (fun c1 => ?_) (fun c1 => ?_)
  · rw [if_pos c1] at hf
    refine r_aload_n X 0 dX8_figure_22 rfl ?_
    refine r_aload_n X 0 dX8_figure_23 rfl ?_
    refine gf_X8_111 X dX8_figure_24 (hv_b 0 _ rfl) rfl ?_
    refine r_iload_n X 1 dX8_figure_27 rfl ?_
    refine r_iload_n X 2 dX8_figure_28 rfl ?_
    refine cl_X8_72 X (by decide) dX8_figure_29 (Nat.le_of_ble_eq_true rfl) (c_Model_in  ) ?_
    refine r_iconst X (2 : Int32) dX8_figure_32 (by decide) ?_
    refine cl_X8_130 X (by decide) dX8_figure_33 (Nat.le_of_ble_eq_true rfl) (hv_b 0 _ rfl) (c_Model_takes  (by first | assumption | omega) (by first | assumption | omega)) ?_
    obtain ⟨q1, eq1⟩ : ∃ q, q = f_Model_takes tape taped fk fp mat mst tok mval (f_Model_in mval lo hi) (2 : Int32) := ⟨_, rfl⟩
    rw [← eq1]
    rw [← eq1] at hf
    try dsimp only at hf
    have hma_q1 : q1.2.2.2.1 ≤ taped := by rw [eq1]; exact takes_post (by assumption) (by assumption)
    have hv_b : isV (ov h b (modL b lane many items spare stat tape taped q1.2.1 q1.2.2.1 q1.2.2.2.1 q1.2.2.2.2.1 q1.2.2.2.2.2.1 q1.2.2.2.2.2.2 W past nac imgs kept gvn costs lst sets bst mlo mal mpr lak trc ntr)) b (modL b lane many items spare stat tape taped q1.2.1 q1.2.2.1 q1.2.2.2.1 q1.2.2.2.2.1 q1.2.2.2.2.2.1 q1.2.2.2.2.2.2 W past nac imgs kept gvn costs lst sets bst mlo mal mpr lak trc ntr) := ov_isV
    try subst hf
    exact r_ireturn X Y dX8_figure_36 rfl rfl
  · rw [if_neg c1] at hf
    refine r_aload_n X 0 dX8_figure_7 rfl ?_
    refine gf_X8_114 X dX8_figure_8 (hv_b 0 _ rfl) rfl ?_
    refine r_iconst X (2 : Int32) dX8_figure_11 (by decide) ?_
    refine r_icmp_eq X 22 dX8_figure_12 rfl (fun c2 => ?_) (fun c2 => ?_)
    · rw [if_pos c2] at hf
      refine r_aload_n X 0 dX8_figure_22 rfl ?_
      refine r_aload_n X 0 dX8_figure_23 rfl ?_
      refine gf_X8_111 X dX8_figure_24 (hv_b 0 _ rfl) rfl ?_
      refine r_iload_n X 1 dX8_figure_27 rfl ?_
      refine r_iload_n X 2 dX8_figure_28 rfl ?_
      refine cl_X8_72 X (by decide) dX8_figure_29 (Nat.le_of_ble_eq_true rfl) (c_Model_in  ) ?_
      refine r_iconst X (2 : Int32) dX8_figure_32 (by decide) ?_
      refine cl_X8_130 X (by decide) dX8_figure_33 (Nat.le_of_ble_eq_true rfl) (hv_b 0 _ rfl) (c_Model_takes  (by first | assumption | omega) (by first | assumption | omega)) ?_
      obtain ⟨q2, eq2⟩ : ∃ q, q = f_Model_takes tape taped fk fp mat mst tok mval (f_Model_in mval lo hi) (2 : Int32) := ⟨_, rfl⟩
      rw [← eq2]
      rw [← eq2] at hf
      try dsimp only at hf
      have hma_q2 : q2.2.2.2.1 ≤ taped := by rw [eq2]; exact takes_post (by assumption) (by assumption)
      have hv_b : isV (ov h b (modL b lane many items spare stat tape taped q2.2.1 q2.2.2.1 q2.2.2.2.1 q2.2.2.2.2.1 q2.2.2.2.2.2.1 q2.2.2.2.2.2.2 W past nac imgs kept gvn costs lst sets bst mlo mal mpr lak trc ntr)) b (modL b lane many items spare stat tape taped q2.2.1 q2.2.2.1 q2.2.2.2.1 q2.2.2.2.2.1 q2.2.2.2.2.2.1 q2.2.2.2.2.2.2 W past nac imgs kept gvn costs lst sets bst mlo mal mpr lak trc ntr) := ov_isV
      try subst hf
      exact r_ireturn X Y dX8_figure_36 rfl rfl
    · rw [if_neg c2] at hf
      refine r_aload_n X 0 dX8_figure_15 rfl ?_
      refine r_iconst X (0 : Int32) dX8_figure_16 (by decide) ?_
      refine r_iconst X (1 : Int32) dX8_figure_17 (by decide) ?_
      refine cl_X8_130 X (by decide) dX8_figure_18 (Nat.le_of_ble_eq_true rfl) (hv_b 0 _ rfl) (c_Model_takes  (by first | assumption | omega) (by first | assumption | omega)) ?_
      obtain ⟨q3, eq3⟩ : ∃ q, q = f_Model_takes tape taped fk fp mat mst tok mval (0 : Int32) (1 : Int32) := ⟨_, rfl⟩
      rw [← eq3]
      rw [← eq3] at hf
      try dsimp only at hf
      have hma_q3 : q3.2.2.2.1 ≤ taped := by rw [eq3]; exact takes_post (by assumption) (by assumption)
      have hv_b : isV (ov h b (modL b lane many items spare stat tape taped q3.2.1 q3.2.2.1 q3.2.2.2.1 q3.2.2.2.2.1 q3.2.2.2.2.2.1 q3.2.2.2.2.2.2 W past nac imgs kept gvn costs lst sets bst mlo mal mpr lak trc ntr)) b (modL b lane many items spare stat tape taped q3.2.1 q3.2.2.1 q3.2.2.2.1 q3.2.2.2.2.1 q3.2.2.2.2.2.1 q3.2.2.2.2.2.2 W past nac imgs kept gvn costs lst sets bst mlo mal mpr lak trc ntr) := ov_isV
      try subst hf
      exact r_ireturn X Y dX8_figure_21 rfl rfl

theorem figure_post {tape : Nat → Int32} {taped : Nat} {fk fp : Int32} {mat mst : Nat} {tok mval lo hi : Int32} (ht : taped ≤ 120) (h : mat ≤ taped) : (f_Model_figure tape taped fk fp mat mst tok mval lo hi).2.2.2.1 ≤ taped := by
  unfold f_Model_figure
  (repeat' split) <;> exact takes_post ht h

def f_Model_behind (tape : Nat → Int32) (taped : Nat) (fk : Int32) (fp : Int32) (mat : Nat) (mst : Nat) (tok : Int32) (mval : Int32) (lo : Int32) (hi : Int32) : Int32 × Int32 × Int32 × Nat × Nat × Int32 × Int32 := ((fun q1 => ((fun q2 => (q2.1, q2.2.1, q2.2.2.1, q2.2.2.2.1, q2.2.2.2.2.1, q2.2.2.2.2.2.1, q2.2.2.2.2.2.2)) (f_Model_figure tape taped q1.2.1 q1.2.2.1 q1.2.2.2.1 q1.2.2.2.2.1 q1.2.2.2.2.2.1 q1.2.2.2.2.2.2 lo hi))) (f_Model_takes tape taped fk fp mat mst tok mval (if tok = (3 : Int32) then (1 : Int32) else (0 : Int32)) (1 : Int32)))
set_option maxRecDepth 20000 in
set_option maxHeartbeats 4000000 in
theorem c_Model_behind {G : mG} {h : mHp} {b : Nat} {lane : Nat → Int32} {many : Nat → Nat} {items : Nat → Int32} {spare : Nat → Int32} {stat : Int32} {tape : Nat → Int32} {taped : Nat} {fk : Int32} {fp : Int32} {mat : Nat} {mst : Nat} {tok : Int32} {mval : Int32} {W : Nat → Nat → Int32} {past : Nat → Int32} {nac : Nat} {imgs : Nat → Int32} {kept : Nat → Int32} {gvn : Nat → Int32} {costs : Nat → Int32} {lst : Nat → Int32} {sets : Nat → Int32} {bst : Int32} {mlo : Int64} {mal : Int32} {mpr : Nat → Int64} {lak : Nat → Int64} {trc : Nat → Int32} {ntr : Nat} {lo : Int32} {hi : Int32}   (ht : taped ≤ 120) (hma : mat ≤ taped) : Ret G 4 mX8_behind [.ref b, .int lo, .int hi] (ov h b (modL b lane many items spare stat tape taped fk fp mat mst tok mval W past nac imgs kept gvn costs lst sets bst mlo mal mpr lak trc ntr)) (some (.int (f_Model_behind tape taped fk fp mat mst tok mval lo hi).1)) (ov h b (modL b lane many items spare stat tape taped (f_Model_behind tape taped fk fp mat mst tok mval lo hi).2.1 (f_Model_behind tape taped fk fp mat mst tok mval lo hi).2.2.1 (f_Model_behind tape taped fk fp mat mst tok mval lo hi).2.2.2.1 (f_Model_behind tape taped fk fp mat mst tok mval lo hi).2.2.2.2.1 (f_Model_behind tape taped fk fp mat mst tok mval lo hi).2.2.2.2.2.1 (f_Model_behind tape taped fk fp mat mst tok mval lo hi).2.2.2.2.2.2 W past nac imgs kept gvn costs lst sets bst mlo mal mpr lak trc ntr)) := by
  generalize hf : f_Model_behind tape taped fk fp mat mst tok mval lo hi = R
  unfold f_Model_behind at hf
  refine Ret.of [(0, .ref b), (1, .int lo), (2, .int hi)] (by decide) (Nat.le_of_ble_eq_true rfl) rfl ?_
  rintro Z rfl X Y
  have hv_b : isV (ov h b (modL b lane many items spare stat tape taped fk fp mat mst tok mval W past nac imgs kept gvn costs lst sets bst mlo mal mpr lak trc ntr)) b (modL b lane many items spare stat tape taped fk fp mat mst tok mval W past nac imgs kept gvn costs lst sets bst mlo mal mpr lak trc ntr) := ov_isV
  refine r_aload_n X 0 dX8_behind_0 rfl ?_
  refine r_aload_n X 0 dX8_behind_1 rfl ?_
  refine gf_X8_114 X dX8_behind_2 (hv_b 0 _ rfl) rfl ?_
  refine r_iconst X (3 : Int32) dX8_behind_5 (by decide) ?_
  refine m_join (P := SW Z 14 [(0, .ref b), (1, .int lo), (2, .int hi)] [.int (if tok = (3 : Int32) then (1 : Int32) else (0 : Int32)), .ref b] (ov h b (modL b lane many items spare stat tape taped fk fp mat mst tok mval W past nac imgs kept gvn costs lst sets bst mlo mal mpr lak trc ntr))) (fun K => ?_) ?_
  · refine r_icmp_ne X 13 dX8_behind_6 rfl (fun c1 => ?_) (fun c1 => ?_)
    · skip
      refine r_iconst X (0 : Int32) dX8_behind_13 (by decide) ?_
      try simp only [if_neg c1] at K ⊢
      exact K
    · skip
      refine r_iconst X (1 : Int32) dX8_behind_9 (by decide) ?_
      refine r_goto X 14 dX8_behind_10 rfl ?_
      try simp only [if_pos c1] at K ⊢
      exact K
  have hv_b : isV (ov h b (modL b lane many items spare stat tape taped fk fp mat mst tok mval W past nac imgs kept gvn costs lst sets bst mlo mal mpr lak trc ntr)) b (modL b lane many items spare stat tape taped fk fp mat mst tok mval W past nac imgs kept gvn costs lst sets bst mlo mal mpr lak trc ntr) := ov_isV
  refine r_iconst X (1 : Int32) dX8_behind_14 (by decide) ?_
  refine cl_X8_130 X (by decide) dX8_behind_15 (Nat.le_of_ble_eq_true rfl) (hv_b 0 _ rfl) (c_Model_takes  (by first | assumption | omega) (by first | assumption | omega)) ?_
  obtain ⟨q1, eq1⟩ : ∃ q, q = f_Model_takes tape taped fk fp mat mst tok mval (if tok = (3 : Int32) then (1 : Int32) else (0 : Int32)) (1 : Int32) := ⟨_, rfl⟩
  rw [← eq1]
  rw [← eq1] at hf
  try dsimp only at hf
  have hma_q1 : q1.2.2.2.1 ≤ taped := by rw [eq1]; exact takes_post (by assumption) (by assumption)
  have hv_b : isV (ov h b (modL b lane many items spare stat tape taped q1.2.1 q1.2.2.1 q1.2.2.2.1 q1.2.2.2.2.1 q1.2.2.2.2.2.1 q1.2.2.2.2.2.2 W past nac imgs kept gvn costs lst sets bst mlo mal mpr lak trc ntr)) b (modL b lane many items spare stat tape taped q1.2.1 q1.2.2.1 q1.2.2.2.1 q1.2.2.2.2.1 q1.2.2.2.2.2.1 q1.2.2.2.2.2.2 W past nac imgs kept gvn costs lst sets bst mlo mal mpr lak trc ntr) := ov_isV
  refine r_pop X dX8_behind_18 rfl ?_
  refine r_aload_n X 0 dX8_behind_19 rfl ?_
  refine r_iload_n X 1 dX8_behind_20 rfl ?_
  refine r_iload_n X 2 dX8_behind_21 rfl ?_
  refine cl_X8_134 X (by decide) dX8_behind_22 (Nat.le_of_ble_eq_true rfl) (hv_b 0 _ rfl) (c_Model_figure  (by first | assumption | omega) (by first | assumption | omega)) ?_
  obtain ⟨q2, eq2⟩ : ∃ q, q = f_Model_figure tape taped q1.2.1 q1.2.2.1 q1.2.2.2.1 q1.2.2.2.2.1 q1.2.2.2.2.2.1 q1.2.2.2.2.2.2 lo hi := ⟨_, rfl⟩
  rw [← eq2]
  rw [← eq2] at hf
  try dsimp only at hf
  have hma_q2 : q2.2.2.2.1 ≤ taped := by rw [eq2]; exact figure_post (by assumption) (by assumption)
  have hv_b : isV (ov h b (modL b lane many items spare stat tape taped q2.2.1 q2.2.2.1 q2.2.2.2.1 q2.2.2.2.2.1 q2.2.2.2.2.2.1 q2.2.2.2.2.2.2 W past nac imgs kept gvn costs lst sets bst mlo mal mpr lak trc ntr)) b (modL b lane many items spare stat tape taped q2.2.1 q2.2.2.1 q2.2.2.2.1 q2.2.2.2.2.1 q2.2.2.2.2.2.1 q2.2.2.2.2.2.2 W past nac imgs kept gvn costs lst sets bst mlo mal mpr lak trc ntr) := ov_isV
  try subst hf
  exact r_ireturn X Y dX8_behind_25 rfl rfl

theorem behind_post {tape : Nat → Int32} {taped : Nat} {fk fp : Int32} {mat mst : Nat} {tok mval lo hi : Int32} (ht : taped ≤ 120) (h : mat ≤ taped) : (f_Model_behind tape taped fk fp mat mst tok mval lo hi).2.2.2.1 ≤ taped := (lam_pr (Pr := fun q => q.2.2.2.1 ≤ taped) (Qr := fun r => r.2.2.2.1 ≤ taped) (A := f_Model_takes tape taped fk fp mat mst tok mval (if tok = (3 : Int32) then (1 : Int32) else (0 : Int32)) (1 : Int32)) (f := fun q1 => ((fun q2 => (q2.1, q2.2.1, q2.2.2.1, q2.2.2.2.1, q2.2.2.2.2.1, q2.2.2.2.2.2.1, q2.2.2.2.2.2.2)) (f_Model_figure tape taped q1.2.1 q1.2.2.1 q1.2.2.2.1 q1.2.2.2.2.1 q1.2.2.2.2.2.1 q1.2.2.2.2.2.2 lo hi))) (takes_post ht h) (fun q1 a0 => (lam_pr (Pr := fun q => q.2.2.2.1 ≤ taped) (Qr := fun r => r.2.2.2.1 ≤ taped) (A := f_Model_figure tape taped q1.2.1 q1.2.2.1 q1.2.2.2.1 q1.2.2.2.2.1 q1.2.2.2.2.2.1 q1.2.2.2.2.2.2 lo hi) (f := fun q2 => (q2.1, q2.2.1, q2.2.2.1, q2.2.2.2.1, q2.2.2.2.2.1, q2.2.2.2.2.2.1, q2.2.2.2.2.2.2)) (figure_post ht a0) (fun q2 a1 => a1))))

def f_Model_must (tape : Nat → Int32) (taped : Nat) (fk : Int32) (fp : Int32) (mat : Nat) (mst : Nat) (tok : Int32) (mval : Int32) (z : Int32) : Int32 × Int32 × Nat × Nat × Int32 × Int32 := (if (f_Model_isWell fp) = (0 : Int32) then (fk, fp, mat, mst, tok, mval) else (if z = (0 : Int32) then ((fun q1 => (q1.2.1, q1.2.2.1, q1.2.2.2.1, q1.2.2.2.2.1, q1.2.2.2.2.2.1, q1.2.2.2.2.2.2)) (f_Model_takes tape taped fk fp mat mst tok mval (0 : Int32) (1 : Int32))) else (fk, fp, mat, mst, tok, mval)))
set_option maxRecDepth 20000 in
set_option maxHeartbeats 4000000 in
theorem c_Model_must {G : mG} {h : mHp} {b : Nat} {lane : Nat → Int32} {many : Nat → Nat} {items : Nat → Int32} {spare : Nat → Int32} {stat : Int32} {tape : Nat → Int32} {taped : Nat} {fk : Int32} {fp : Int32} {mat : Nat} {mst : Nat} {tok : Int32} {mval : Int32} {W : Nat → Nat → Int32} {past : Nat → Int32} {nac : Nat} {imgs : Nat → Int32} {kept : Nat → Int32} {gvn : Nat → Int32} {costs : Nat → Int32} {lst : Nat → Int32} {sets : Nat → Int32} {bst : Int32} {mlo : Int64} {mal : Int32} {mpr : Nat → Int64} {lak : Nat → Int64} {trc : Nat → Int32} {ntr : Nat} {z : Int32}   (ht : taped ≤ 120) (hma : mat ≤ taped) : Ret G 3 mX8_must [.ref b, .int z] (ov h b (modL b lane many items spare stat tape taped fk fp mat mst tok mval W past nac imgs kept gvn costs lst sets bst mlo mal mpr lak trc ntr)) none (ov h b (modL b lane many items spare stat tape taped (f_Model_must tape taped fk fp mat mst tok mval z).1 (f_Model_must tape taped fk fp mat mst tok mval z).2.1 (f_Model_must tape taped fk fp mat mst tok mval z).2.2.1 (f_Model_must tape taped fk fp mat mst tok mval z).2.2.2.1 (f_Model_must tape taped fk fp mat mst tok mval z).2.2.2.2.1 (f_Model_must tape taped fk fp mat mst tok mval z).2.2.2.2.2 W past nac imgs kept gvn costs lst sets bst mlo mal mpr lak trc ntr)) := by
  generalize hf : f_Model_must tape taped fk fp mat mst tok mval z = R
  unfold f_Model_must at hf
  refine Ret.of [(0, .ref b), (1, .int z)] (by decide) (Nat.le_of_ble_eq_true rfl) rfl ?_
  rintro Z rfl X Y
  have hv_b : isV (ov h b (modL b lane many items spare stat tape taped fk fp mat mst tok mval W past nac imgs kept gvn costs lst sets bst mlo mal mpr lak trc ntr)) b (modL b lane many items spare stat tape taped fk fp mat mst tok mval W past nac imgs kept gvn costs lst sets bst mlo mal mpr lak trc ntr) := ov_isV
  refine r_aload_n X 0 dX8_must_0 rfl ?_
  refine cl_X8_120 X (by decide) dX8_must_1 (Nat.le_of_ble_eq_true rfl) (hv_b 0 _ rfl) (c_Model_isWell hv_b ) ?_
  refine r_if_eq X 18 dX8_must_4 rfl (fun c1 => ?_) (fun c1 => ?_)
  · rw [if_pos c1] at hf
    try subst hf
    exact r_return X Y dX8_must_18 rfl rfl
  · rw [if_neg c1] at hf
    refine r_iload_n X 1 dX8_must_7 rfl ?_
    refine r_if_ne X 18 dX8_must_8 rfl (fun c2 => ?_) (fun c2 => ?_)
    · rw [if_neg c2] at hf
      try subst hf
      exact r_return X Y dX8_must_18 rfl rfl
    · rw [if_pos c2] at hf
      refine r_aload_n X 0 dX8_must_11 rfl ?_
      refine r_iconst X (0 : Int32) dX8_must_12 (by decide) ?_
      refine r_iconst X (1 : Int32) dX8_must_13 (by decide) ?_
      refine cl_X8_130 X (by decide) dX8_must_14 (Nat.le_of_ble_eq_true rfl) (hv_b 0 _ rfl) (c_Model_takes  (by first | assumption | omega) (by first | assumption | omega)) ?_
      obtain ⟨q1, eq1⟩ : ∃ q, q = f_Model_takes tape taped fk fp mat mst tok mval (0 : Int32) (1 : Int32) := ⟨_, rfl⟩
      rw [← eq1]
      rw [← eq1] at hf
      try dsimp only at hf
      have hma_q1 : q1.2.2.2.1 ≤ taped := by rw [eq1]; exact takes_post (by assumption) (by assumption)
      have hv_b : isV (ov h b (modL b lane many items spare stat tape taped q1.2.1 q1.2.2.1 q1.2.2.2.1 q1.2.2.2.2.1 q1.2.2.2.2.2.1 q1.2.2.2.2.2.2 W past nac imgs kept gvn costs lst sets bst mlo mal mpr lak trc ntr)) b (modL b lane many items spare stat tape taped q1.2.1 q1.2.2.1 q1.2.2.2.1 q1.2.2.2.2.1 q1.2.2.2.2.2.1 q1.2.2.2.2.2.2 W past nac imgs kept gvn costs lst sets bst mlo mal mpr lak trc ntr) := ov_isV
      refine r_pop X dX8_must_17 rfl ?_
      try subst hf
      exact r_return X Y dX8_must_18 rfl rfl

theorem must_post {tape : Nat → Int32} {taped : Nat} {fk fp : Int32} {mat mst : Nat} {tok mval z : Int32} (ht : taped ≤ 120) (h : mat ≤ taped) : (f_Model_must tape taped fk fp mat mst tok mval z).2.2.1 ≤ taped := by
  unfold f_Model_must
  (repeat' split) <;> first | exact h | exact takes_post ht h
