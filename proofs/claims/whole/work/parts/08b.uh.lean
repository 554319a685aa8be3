theorem noUnit_nat {U : Nat} {u : Int32} (hU : U ≤ 4) (h : f_UH_noUnit U u = 0) : ∃ k, k < U ∧ u = nI k := by
  unfold f_UH_noUnit at h
  by_cases c1 : u < 0
  · rw [if_pos c1] at h; exact absurd h (by decide)
  · rw [if_neg c1] at h
    by_cases c2 : u < nI U
    · obtain ⟨j, hj, rfl⟩ := nI_of c1
      exact ⟨j, nI_ltX c2 hj (by omega), rfl⟩
    · rw [if_neg c2] at h; exact absurd h (by decide)
theorem noHour_nat {H : Nat} {u : Int32} (hH : H ≤ 6) (h : f_UH_noHour H u = 0) : ∃ k, k < H ∧ u = nI k := by
  unfold f_UH_noHour at h
  by_cases c1 : u < 0
  · rw [if_pos c1] at h; exact absurd h (by decide)
  · rw [if_neg c1] at h
    by_cases c2 : u < nI H
    · obtain ⟨j, hj, rfl⟩ := nI_of c1
      exact ⟨j, nI_ltX c2 hj (by omega), rfl⟩
    · rw [if_neg c2] at h; exact absurd h (by decide)

def f_UH_kind (U : Nat) (kin : Nat → Int32) (u : Int32) : Int32 := (if (f_UH_noUnit U u) = (0 : Int32) then kin (u.toNatClampNeg) else (-1000001 : Int32))
set_option maxRecDepth 20000 in
set_option maxHeartbeats 4000000 in
theorem c_UH_kind {G : mG} {h : mHp} {x : Nat} {fin : Int32} {lf : Int32} {kn : Int64} {ik : Int32} {H : Nat} {U : Nat} {res : Int32} {dem : Nat → Int32} {kin : Nat → Int32} {low : Nat → Int32} {hig : Nat → Int32} {pri : Nat → Int32} {sta : Nat → Int32} {ups : Nat → Int32} {dow : Nat → Int32} {onn : Nat → Int32} {ord : Nat → Nat} {flo : Nat → Int32} {sro : Nat → Int32} {sco : Nat → Int32} {u : Int32} (hv_x : isV h x (uhL x fin lf kn ik)) (hv_d : isV h (x + 15) (dayL (x + 15) H U res dem kin low hig pri sta ups dow onn ord flo sro sco))  (hU : U ≤ 4) : Ret G 1 mX7_kind [.ref x, .int u] h (some (.int (f_UH_kind U kin u))) h := by
  generalize hf : f_UH_kind U kin u = R
  unfold f_UH_kind at hf
  refine Ret.of [(0, .ref x), (1, .int u)] (by decide) (Nat.le_of_ble_eq_true rfl) rfl ?_
  rintro Z rfl X Y
  refine r_aload_n X 0 dX7_kind_0 rfl ?_
  refine r_iload_n X 1 dX7_kind_1 rfl ?_
  refine cl_X7_148 X (by decide) dX7_kind_2 (Nat.le_of_ble_eq_true rfl) (hv_x 0 _ rfl) (c_UH_noUnit hv_x hv_d ) ?_
  refine r_if_eq X 13 dX7_kind_5 rfl (fun cu => ?_) (fun cu => ?_)
  · rw [if_pos cu] at hf
    obtain ⟨k, hk, rfl⟩ := noUnit_nat hU cu
    try simp only [nI_clamp (show k < 2 ^ 31 by omega)] at hf
    refine r_aload_n X 0 dX7_kind_13 rfl ?_
    refine gf_X7_26 X dX7_kind_14 (hv_x 0 _ rfl) rfl ?_
    refine gf_X7_194 X dX7_kind_17 (hv_d 0 _ rfl) rfl ?_
    refine r_iload_n X 1 dX7_kind_20 rfl ?_
    refine r_ialdn X (k0 := k) dX7_kind_21 (hv_d 2 _ rfl) (by omega) (by decide) ?_
    try subst hf
    exact r_ireturn X Y dX7_kind_22 rfl rfl
  · rw [if_neg cu] at hf
    refine r_ldc X dX7_kind_8 kk_X7_69 ?_
    refine r_goto X 22 dX7_kind_10 rfl ?_
    try subst hf
    exact r_ireturn X Y dX7_kind_22 rfl rfl

def f_UH_unit (H : Nat) (U : Nat) (kin : Nat → Int32) (low : Nat → Int32) (hig : Nat → Int32) (pri : Nat → Int32) (sta : Nat → Int32) (ups : Nat → Int32) (dow : Nat → Int32) (onn : Nat → Int32) (u : Int32) (wh : Int32) : Int32 := (if (f_UH_noUnit U u) = (0 : Int32) then (if wh = (0 : Int32) then low (u.toNatClampNeg) else (if wh = (1 : Int32) then hig (u.toNatClampNeg) else (if wh = (2 : Int32) then pri (u.toNatClampNeg) else (if wh = (3 : Int32) then sta (u.toNatClampNeg) else (if wh = (4 : Int32) then ups (u.toNatClampNeg) else (if wh = (5 : Int32) then dow (u.toNatClampNeg) else (if wh = (6 : Int32) then onn (u.toNatClampNeg) else (if wh = (7 : Int32) then (f_startsAmong (onn (u.toNatClampNeg))) else (if wh = (8 : Int32) then if (f_Day_keeps H kin ups dow (u.toNatClampNeg) (onn (u.toNatClampNeg))) = (0 : Int32) then (0 : Int32) else (1 : Int32) else (-1000001 : Int32)))))))))) else (-1000001 : Int32))
set_option maxRecDepth 20000 in
set_option maxHeartbeats 4000000 in
theorem c_UH_unit {G : mG} {h : mHp} {x : Nat} {fin : Int32} {lf : Int32} {kn : Int64} {ik : Int32} {H : Nat} {U : Nat} {res : Int32} {dem : Nat → Int32} {kin : Nat → Int32} {low : Nat → Int32} {hig : Nat → Int32} {pri : Nat → Int32} {sta : Nat → Int32} {ups : Nat → Int32} {dow : Nat → Int32} {onn : Nat → Int32} {ord : Nat → Nat} {flo : Nat → Int32} {sro : Nat → Int32} {sco : Nat → Int32} {u : Int32} {wh : Int32} (hv_x : isV h x (uhL x fin lf kn ik)) (hv_d : isV h (x + 15) (dayL (x + 15) H U res dem kin low hig pri sta ups dow onn ord flo sro sco))  (hU : U ≤ 4) (hH : H ≤ 6) : Ret G 2 mX7_unit [.ref x, .int u, .int wh] h (some (.int (f_UH_unit H U kin low hig pri sta ups dow onn u wh))) h := by
  generalize hf : f_UH_unit H U kin low hig pri sta ups dow onn u wh = R
  unfold f_UH_unit at hf
  refine Ret.of [(0, .ref x), (1, .int u), (2, .int wh)] (by decide) (Nat.le_of_ble_eq_true rfl) rfl ?_
  rintro Z rfl X Y
  refine r_aload_n X 0 dX7_unit_0 rfl ?_
  refine r_iload_n X 1 dX7_unit_1 rfl ?_
  refine cl_X7_148 X (by decide) dX7_unit_2 (Nat.le_of_ble_eq_true rfl) (hv_x 0 _ rfl) (c_UH_noUnit hv_x hv_d ) ?_
  refine r_if_eq X 11 dX7_unit_5 rfl (fun cu => ?_) (fun cu => ?_)
  · rw [if_pos cu] at hf
    obtain ⟨k, hk, rfl⟩ := noUnit_nat hU cu
    try simp only [nI_clamp (show k < 2 ^ 31 by omega)] at hf
    refine r_iload_n X 2 dX7_unit_11 rfl ?_
    by_cases c1 : wh = (0 : Int32)
    · rw [if_pos c1] at hf
      refine r_tsin X 64 dX7_unit_12 (by rw [c1]; decide) (by rw [c1]; decide) (by rw [c1]; rfl) rfl ?_
      refine r_aload_n X 0 dX7_unit_64 rfl ?_
      refine gf_X7_26 X dX7_unit_65 (hv_x 0 _ rfl) rfl ?_
      refine gf_X7_206 X dX7_unit_68 (hv_d 0 _ rfl) rfl ?_
      refine r_iload_n X 1 dX7_unit_71 rfl ?_
      refine r_ialdn X (k0 := k) dX7_unit_72 (hv_d 3 _ rfl) (by omega) (by decide) ?_
      try subst hf
      exact r_ireturn X Y dX7_unit_73 rfl rfl
    · rw [if_neg c1] at hf
      by_cases c2 : wh = (1 : Int32)
      · rw [if_pos c2] at hf
        refine r_tsin X 74 dX7_unit_12 (by rw [c2]; decide) (by rw [c2]; decide) (by rw [c2]; rfl) rfl ?_
        refine r_aload_n X 0 dX7_unit_74 rfl ?_
        refine gf_X7_26 X dX7_unit_75 (hv_x 0 _ rfl) rfl ?_
        refine gf_X7_209 X dX7_unit_78 (hv_d 0 _ rfl) rfl ?_
        refine r_iload_n X 1 dX7_unit_81 rfl ?_
        refine r_ialdn X (k0 := k) dX7_unit_82 (hv_d 4 _ rfl) (by omega) (by decide) ?_
        try subst hf
        exact r_ireturn X Y dX7_unit_83 rfl rfl
      · rw [if_neg c2] at hf
        by_cases c3 : wh = (2 : Int32)
        · rw [if_pos c3] at hf
          refine r_tsin X 84 dX7_unit_12 (by rw [c3]; decide) (by rw [c3]; decide) (by rw [c3]; rfl) rfl ?_
          refine r_aload_n X 0 dX7_unit_84 rfl ?_
          refine gf_X7_26 X dX7_unit_85 (hv_x 0 _ rfl) rfl ?_
          refine gf_X7_187 X dX7_unit_88 (hv_d 0 _ rfl) rfl ?_
          refine r_iload_n X 1 dX7_unit_91 rfl ?_
          refine r_ialdn X (k0 := k) dX7_unit_92 (hv_d 5 _ rfl) (by omega) (by decide) ?_
          try subst hf
          exact r_ireturn X Y dX7_unit_93 rfl rfl
        · rw [if_neg c3] at hf
          by_cases c4 : wh = (3 : Int32)
          · rw [if_pos c4] at hf
            refine r_tsin X 94 dX7_unit_12 (by rw [c4]; decide) (by rw [c4]; decide) (by rw [c4]; rfl) rfl ?_
            refine r_aload_n X 0 dX7_unit_94 rfl ?_
            refine gf_X7_26 X dX7_unit_95 (hv_x 0 _ rfl) rfl ?_
            refine gf_X7_212 X dX7_unit_98 (hv_d 0 _ rfl) rfl ?_
            refine r_iload_n X 1 dX7_unit_101 rfl ?_
            refine r_ialdn X (k0 := k) dX7_unit_102 (hv_d 6 _ rfl) (by omega) (by decide) ?_
            try subst hf
            exact r_ireturn X Y dX7_unit_103 rfl rfl
          · rw [if_neg c4] at hf
            by_cases c5 : wh = (4 : Int32)
            · rw [if_pos c5] at hf
              refine r_tsin X 104 dX7_unit_12 (by rw [c5]; decide) (by rw [c5]; decide) (by rw [c5]; rfl) rfl ?_
              refine r_aload_n X 0 dX7_unit_104 rfl ?_
              refine gf_X7_26 X dX7_unit_105 (hv_x 0 _ rfl) rfl ?_
              refine gf_X7_215 X dX7_unit_108 (hv_d 0 _ rfl) rfl ?_
              refine r_iload_n X 1 dX7_unit_111 rfl ?_
              refine r_ialdn X (k0 := k) dX7_unit_112 (hv_d 7 _ rfl) (by omega) (by decide) ?_
              try subst hf
              exact r_ireturn X Y dX7_unit_113 rfl rfl
            · rw [if_neg c5] at hf
              by_cases c6 : wh = (5 : Int32)
              · rw [if_pos c6] at hf
                refine r_tsin X 114 dX7_unit_12 (by rw [c6]; decide) (by rw [c6]; decide) (by rw [c6]; rfl) rfl ?_
                refine r_aload_n X 0 dX7_unit_114 rfl ?_
                refine gf_X7_26 X dX7_unit_115 (hv_x 0 _ rfl) rfl ?_
                refine gf_X7_218 X dX7_unit_118 (hv_d 0 _ rfl) rfl ?_
                refine r_iload_n X 1 dX7_unit_121 rfl ?_
                refine r_ialdn X (k0 := k) dX7_unit_122 (hv_d 8 _ rfl) (by omega) (by decide) ?_
                try subst hf
                exact r_ireturn X Y dX7_unit_123 rfl rfl
              · rw [if_neg c6] at hf
                by_cases c7 : wh = (6 : Int32)
                · rw [if_pos c7] at hf
                  refine r_tsin X 124 dX7_unit_12 (by rw [c7]; decide) (by rw [c7]; decide) (by rw [c7]; rfl) rfl ?_
                  refine r_aload_n X 0 dX7_unit_124 rfl ?_
                  refine gf_X7_26 X dX7_unit_125 (hv_x 0 _ rfl) rfl ?_
                  refine gf_X7_155 X dX7_unit_128 (hv_d 0 _ rfl) rfl ?_
                  refine r_iload_n X 1 dX7_unit_131 rfl ?_
                  refine r_ialdn X (k0 := k) dX7_unit_132 (hv_d 9 _ rfl) (by omega) (by decide) ?_
                  try subst hf
                  exact r_ireturn X Y dX7_unit_133 rfl rfl
                · rw [if_neg c7] at hf
                  by_cases c8 : wh = (7 : Int32)
                  · rw [if_pos c8] at hf
                    refine r_tsin X 134 dX7_unit_12 (by rw [c8]; decide) (by rw [c8]; decide) (by rw [c8]; rfl) rfl ?_
                    refine r_aload_n X 0 dX7_unit_134 rfl ?_
                    refine gf_X7_26 X dX7_unit_135 (hv_x 0 _ rfl) rfl ?_
                    refine gf_X7_155 X dX7_unit_138 (hv_d 0 _ rfl) rfl ?_
                    refine r_iload_n X 1 dX7_unit_141 rfl ?_
                    refine r_ialdn X (k0 := k) dX7_unit_142 (hv_d 9 _ rfl) (by omega) (by decide) ?_
                    refine cl_X7_221 X (by decide) dX7_unit_143 (Nat.le_of_ble_eq_true rfl) (c_startsAmong  ) ?_
                    try subst hf
                    exact r_ireturn X Y dX7_unit_146 rfl rfl
                  · rw [if_neg c8] at hf
                    by_cases c9 : wh = (8 : Int32)
                    · rw [if_pos c9] at hf
                      refine r_tsin X 147 dX7_unit_12 (by rw [c9]; decide) (by rw [c9]; decide) (by rw [c9]; rfl) rfl ?_
                      refine r_aload_n X 0 dX7_unit_147 rfl ?_
                      refine gf_X7_26 X dX7_unit_148 (hv_x 0 _ rfl) rfl ?_
                      refine r_iload_n X 1 dX7_unit_151 rfl ?_
                      refine r_aload_n X 0 dX7_unit_152 rfl ?_
                      refine gf_X7_26 X dX7_unit_153 (hv_x 0 _ rfl) rfl ?_
                      refine gf_X7_155 X dX7_unit_156 (hv_d 0 _ rfl) rfl ?_
                      refine r_iload_n X 1 dX7_unit_159 rfl ?_
                      refine r_ialdn X (k0 := k) dX7_unit_160 (hv_d 9 _ rfl) (by omega) (by decide) ?_
                      refine cl_X7_224 X (by decide) dX7_unit_161 (Nat.le_of_ble_eq_true rfl) (hv_d 0 _ rfl) (c_Day_keeps hv_d (by first | assumption | omega) (by first | assumption | omega)) ?_
                      refine m_join (P := SW Z 172 [] [.int (if (f_Day_keeps H kin ups dow k (onn k)) = (0 : Int32) then (0 : Int32) else (1 : Int32))] h) (fun K => ?_) ?_
                      · refine r_if_eq X 171 dX7_unit_164 rfl (fun c10 => ?_) (fun c10 => ?_)
                        · skip
                          refine r_iconst X (0 : Int32) dX7_unit_171 (by decide) ?_
                          refine SW.pick [] [] rfl ?_
                          try simp only [if_pos c10] at K ⊢
                          exact K
                        · skip
                          refine r_iconst X (1 : Int32) dX7_unit_167 (by decide) ?_
                          refine r_goto X 172 dX7_unit_168 rfl ?_
                          refine SW.pick [] [] rfl ?_
                          try simp only [if_neg c10] at K ⊢
                          exact K
                      try subst hf
                      exact r_ireturn X Y dX7_unit_172 rfl rfl
                    · rw [if_neg c9] at hf
                      refine r_tsout X 173 dX7_unit_12 (by have a0 : ¬ wh.toInt = 0 := i32_ne c1; have a1 : ¬ wh.toInt = 1 := i32_ne c2; have a2 : ¬ wh.toInt = 2 := i32_ne c3; have a3 : ¬ wh.toInt = 3 := i32_ne c4; have a4 : ¬ wh.toInt = 4 := i32_ne c5; have a5 : ¬ wh.toInt = 5 := i32_ne c6; have a6 : ¬ wh.toInt = 6 := i32_ne c7; have a7 : ¬ wh.toInt = 7 := i32_ne c8; have a8 : ¬ wh.toInt = 8 := i32_ne c9; omega) rfl ?_
                      refine r_ldc X dX7_unit_173 kk_X7_69 ?_
                      try subst hf
                      exact r_ireturn X Y dX7_unit_175 rfl rfl
  · rw [if_neg cu] at hf
    refine r_ldc X dX7_unit_8 kk_X7_69 ?_
    try subst hf
    exact r_ireturn X Y dX7_unit_10 rfl rfl

def f_UH_hour (H : Nat) (U : Nat) (res : Int32) (dem : Nat → Int32) (hig : Nat → Int32) (onn : Nat → Int32) (flo : Nat → Int32) (sro : Nat → Int32) (hr : Int32) (wh : Int32) : Int32 := (if (f_UH_noHour H hr) = (0 : Int32) then (if wh = (0 : Int32) then dem (hr.toNatClampNeg) else (if wh = (1 : Int32) then (f_Day_unitsOn U onn (nI (hr.toNatClampNeg))) else (if wh = (2 : Int32) then (f_Day_floorsOf U flo (f_Day_unitsOn U onn (nI (hr.toNatClampNeg)))) else (if wh = (3 : Int32) then (f_Day_roofsOf U hig sro (f_Day_unitsOn U onn (nI (hr.toNatClampNeg))) (f_Day_unitsStarting U onn (nI (hr.toNatClampNeg)))) else (if wh = (4 : Int32) then if (f_Day_isMet U res hig flo sro (dem (hr.toNatClampNeg)) (f_Day_unitsOn U onn (nI (hr.toNatClampNeg))) (f_Day_unitsStarting U onn (nI (hr.toNatClampNeg)))) = (0 : Int32) then (0 : Int32) else (1 : Int32) else (-1000001 : Int32)))))) else (-1000001 : Int32))
set_option maxRecDepth 20000 in
set_option maxHeartbeats 4000000 in
theorem c_UH_hour {G : mG} {h : mHp} {x : Nat} {fin : Int32} {lf : Int32} {kn : Int64} {ik : Int32} {H : Nat} {U : Nat} {res : Int32} {dem : Nat → Int32} {kin : Nat → Int32} {low : Nat → Int32} {hig : Nat → Int32} {pri : Nat → Int32} {sta : Nat → Int32} {ups : Nat → Int32} {dow : Nat → Int32} {onn : Nat → Int32} {ord : Nat → Nat} {flo : Nat → Int32} {sro : Nat → Int32} {sco : Nat → Int32} {hr : Int32} {wh : Int32} (hv_x : isV h x (uhL x fin lf kn ik)) (hv_d : isV h (x + 15) (dayL (x + 15) H U res dem kin low hig pri sta ups dow onn ord flo sro sco))  (hU : U ≤ 4) (hH : H ≤ 6) : Ret G 3 mX7_hour [.ref x, .int hr, .int wh] h (some (.int (f_UH_hour H U res dem hig onn flo sro hr wh))) h := by
  generalize hf : f_UH_hour H U res dem hig onn flo sro hr wh = R
  unfold f_UH_hour at hf
  refine Ret.of [(0, .ref x), (1, .int hr), (2, .int wh)] (by decide) (Nat.le_of_ble_eq_true rfl) rfl ?_
  rintro Z rfl X Y
  refine r_aload_n X 0 dX7_hour_0 rfl ?_
  refine r_iload_n X 1 dX7_hour_1 rfl ?_
  refine cl_X7_178 X (by decide) dX7_hour_2 (Nat.le_of_ble_eq_true rfl) (hv_x 0 _ rfl) (c_UH_noHour hv_x hv_d ) ?_
  refine r_if_eq X 11 dX7_hour_5 rfl (fun cu => ?_) (fun cu => ?_)
  · rw [if_pos cu] at hf
    obtain ⟨k, hk, rfl⟩ := noHour_nat hH cu
    try simp only [nI_clamp (show k < 2 ^ 31 by omega)] at hf
    refine r_aload_n X 0 dX7_hour_11 rfl ?_
    refine gf_X7_26 X dX7_hour_12 (hv_x 0 _ rfl) rfl ?_
    refine r_iload_n X 1 dX7_hour_15 rfl ?_
    refine cl_X7_228 X (by decide) dX7_hour_16 (Nat.le_of_ble_eq_true rfl) (hv_d 0 _ rfl) (c_Day_unitsOn hv_d (by first | assumption | omega)) ?_
    refine r_istore_n [(0, .ref x), (1, .int (nI k)), (2, .int wh), (3, .int (f_Day_unitsOn U onn (nI k)))] X dX7_hour_19 rfl (by decide) rfl ?_
    refine r_aload_n X 0 dX7_hour_20 rfl ?_
    refine gf_X7_26 X dX7_hour_21 (hv_x 0 _ rfl) rfl ?_
    refine r_iload_n X 1 dX7_hour_24 rfl ?_
    refine cl_X7_231 X (by decide) dX7_hour_25 (Nat.le_of_ble_eq_true rfl) (hv_d 0 _ rfl) (c_Day_unitsStarting hv_d (by first | assumption | omega)) ?_
    refine r_istore [(0, .ref x), (1, .int (nI k)), (2, .int wh), (3, .int (f_Day_unitsOn U onn (nI k))), (4, .int (f_Day_unitsStarting U onn (nI k)))] X dX7_hour_28 (by decide) rfl ?_
    refine r_iload_n X 2 dX7_hour_30 rfl ?_
    by_cases c1 : wh = (0 : Int32)
    · rw [if_pos c1] at hf
      refine r_tsin X 64 dX7_hour_31 (by rw [c1]; decide) (by rw [c1]; decide) (by rw [c1]; rfl) rfl ?_
      refine r_aload_n X 0 dX7_hour_64 rfl ?_
      refine gf_X7_26 X dX7_hour_65 (hv_x 0 _ rfl) rfl ?_
      refine gf_X7_181 X dX7_hour_68 (hv_d 0 _ rfl) rfl ?_
      refine r_iload_n X 1 dX7_hour_71 rfl ?_
      refine r_ialdn X (k0 := k) dX7_hour_72 (hv_d 1 _ rfl) (by omega) (by decide) ?_
      try subst hf
      exact r_ireturn X Y dX7_hour_73 rfl rfl
    · rw [if_neg c1] at hf
      by_cases c2 : wh = (1 : Int32)
      · rw [if_pos c2] at hf
        refine r_tsin X 74 dX7_hour_31 (by rw [c2]; decide) (by rw [c2]; decide) (by rw [c2]; rfl) rfl ?_
        refine r_iload_n X 3 dX7_hour_74 rfl ?_
        try subst hf
        exact r_ireturn X Y dX7_hour_75 rfl rfl
      · rw [if_neg c2] at hf
        by_cases c3 : wh = (2 : Int32)
        · rw [if_pos c3] at hf
          refine r_tsin X 76 dX7_hour_31 (by rw [c3]; decide) (by rw [c3]; decide) (by rw [c3]; rfl) rfl ?_
          refine r_aload_n X 0 dX7_hour_76 rfl ?_
          refine gf_X7_26 X dX7_hour_77 (hv_x 0 _ rfl) rfl ?_
          refine r_iload_n X 3 dX7_hour_80 rfl ?_
          refine cl_X7_234 X (by decide) dX7_hour_81 (Nat.le_of_ble_eq_true rfl) (hv_d 0 _ rfl) (c_Day_floorsOf hv_d (by first | assumption | omega)) ?_
          try subst hf
          exact r_ireturn X Y dX7_hour_84 rfl rfl
        · rw [if_neg c3] at hf
          by_cases c4 : wh = (3 : Int32)
          · rw [if_pos c4] at hf
            refine r_tsin X 85 dX7_hour_31 (by rw [c4]; decide) (by rw [c4]; decide) (by rw [c4]; rfl) rfl ?_
            refine r_aload_n X 0 dX7_hour_85 rfl ?_
            refine gf_X7_26 X dX7_hour_86 (hv_x 0 _ rfl) rfl ?_
            refine r_iload_n X 3 dX7_hour_89 rfl ?_
            refine r_iload X 4 dX7_hour_90 rfl ?_
            refine cl_X7_237 X (by decide) dX7_hour_92 (Nat.le_of_ble_eq_true rfl) (hv_d 0 _ rfl) (c_Day_roofsOf hv_d (by first | assumption | omega)) ?_
            try subst hf
            exact r_ireturn X Y dX7_hour_95 rfl rfl
          · rw [if_neg c4] at hf
            by_cases c5 : wh = (4 : Int32)
            · rw [if_pos c5] at hf
              refine r_tsin X 96 dX7_hour_31 (by rw [c5]; decide) (by rw [c5]; decide) (by rw [c5]; rfl) rfl ?_
              refine r_aload_n X 0 dX7_hour_96 rfl ?_
              refine gf_X7_26 X dX7_hour_97 (hv_x 0 _ rfl) rfl ?_
              refine r_aload_n X 0 dX7_hour_100 rfl ?_
              refine gf_X7_26 X dX7_hour_101 (hv_x 0 _ rfl) rfl ?_
              refine gf_X7_181 X dX7_hour_104 (hv_d 0 _ rfl) rfl ?_
              refine r_iload_n X 1 dX7_hour_107 rfl ?_
              refine r_ialdn X (k0 := k) dX7_hour_108 (hv_d 1 _ rfl) (by omega) (by decide) ?_
              refine r_iload_n X 3 dX7_hour_109 rfl ?_
              refine r_iload X 4 dX7_hour_110 rfl ?_
              refine cl_X7_241 X (by decide) dX7_hour_112 (Nat.le_of_ble_eq_true rfl) (hv_d 0 _ rfl) (c_Day_isMet hv_d (by first | assumption | omega)) ?_
              refine m_join (P := SW Z 123 [] [.int (if (f_Day_isMet U res hig flo sro (dem k) (f_Day_unitsOn U onn (nI k)) (f_Day_unitsStarting U onn (nI k))) = (0 : Int32) then (0 : Int32) else (1 : Int32))] h) (fun K => ?_) ?_
              · refine r_if_eq X 122 dX7_hour_115 rfl (fun c6 => ?_) (fun c6 => ?_)
                · skip
                  refine r_iconst X (0 : Int32) dX7_hour_122 (by decide) ?_
                  refine SW.pick [] [] rfl ?_
                  try simp only [if_pos c6] at K ⊢
                  exact K
                · skip
                  refine r_iconst X (1 : Int32) dX7_hour_118 (by decide) ?_
                  refine r_goto X 123 dX7_hour_119 rfl ?_
                  refine SW.pick [] [] rfl ?_
                  try simp only [if_neg c6] at K ⊢
                  exact K
              try subst hf
              exact r_ireturn X Y dX7_hour_123 rfl rfl
            · rw [if_neg c5] at hf
              refine r_tsout X 124 dX7_hour_31 (by have a0 : ¬ wh.toInt = 0 := i32_ne c1; have a1 : ¬ wh.toInt = 1 := i32_ne c2; have a2 : ¬ wh.toInt = 2 := i32_ne c3; have a3 : ¬ wh.toInt = 3 := i32_ne c4; have a4 : ¬ wh.toInt = 4 := i32_ne c5; omega) rfl ?_
              refine r_ldc X dX7_hour_124 kk_X7_69 ?_
              try subst hf
              exact r_ireturn X Y dX7_hour_126 rfl rfl
  · rw [if_neg cu] at hf
    refine r_ldc X dX7_hour_8 kk_X7_69 ?_
    try subst hf
    exact r_ireturn X Y dX7_hour_10 rfl rfl

def f_UH_gives (H : Nat) (U : Nat) (res : Int32) (dem : Nat → Int32) (hig : Nat → Int32) (onn : Nat → Int32) (ord : Nat → Nat) (flo : Nat → Int32) (sro : Nat → Int32) (u : Int32) (hr : Int32) : Int32 := (if (f_UH_noUnit U u) = (0 : Int32) then (if (f_UH_noHour H hr) = (0 : Int32) then (if (f_Day_isMet U res hig flo sro (dem (hr.toNatClampNeg)) (f_Day_unitsOn U onn (nI (hr.toNatClampNeg))) (f_Day_unitsStarting U onn (nI (hr.toNatClampNeg)))) = (0 : Int32) then (-1000000 : Int32) else (f_Day_givenBy U hig ord flo sro (u.toNatClampNeg) (dem (hr.toNatClampNeg)) (f_Day_unitsOn U onn (nI (hr.toNatClampNeg))) (f_Day_unitsStarting U onn (nI (hr.toNatClampNeg))))) else (-1000001 : Int32)) else (-1000001 : Int32))
set_option maxRecDepth 20000 in
set_option maxHeartbeats 4000000 in
theorem c_UH_gives {G : mG} {h : mHp} {x : Nat} {fin : Int32} {lf : Int32} {kn : Int64} {ik : Int32} {H : Nat} {U : Nat} {res : Int32} {dem : Nat → Int32} {kin : Nat → Int32} {low : Nat → Int32} {hig : Nat → Int32} {pri : Nat → Int32} {sta : Nat → Int32} {ups : Nat → Int32} {dow : Nat → Int32} {onn : Nat → Int32} {ord : Nat → Nat} {flo : Nat → Int32} {sro : Nat → Int32} {sco : Nat → Int32} {u : Int32} {hr : Int32} (hv_x : isV h x (uhL x fin lf kn ik)) (hv_d : isV h (x + 15) (dayL (x + 15) H U res dem kin low hig pri sta ups dow onn ord flo sro sco))  (hU : U ≤ 4) (hH : H ≤ 6) (hO : ∀ j, j < 4 → ord j < 4) : Ret G 3 mX7_gives [.ref x, .int u, .int hr] h (some (.int (f_UH_gives H U res dem hig onn ord flo sro u hr))) h := by
  generalize hf : f_UH_gives H U res dem hig onn ord flo sro u hr = R
  unfold f_UH_gives at hf
  refine Ret.of [(0, .ref x), (1, .int u), (2, .int hr)] (by decide) (Nat.le_of_ble_eq_true rfl) rfl ?_
  rintro Z rfl X Y
  refine r_aload_n X 0 dX7_gives_0 rfl ?_
  refine r_iload_n X 1 dX7_gives_1 rfl ?_
  refine cl_X7_148 X (by decide) dX7_gives_2 (Nat.le_of_ble_eq_true rfl) (hv_x 0 _ rfl) (c_UH_noUnit hv_x hv_d ) ?_
  refine r_if_ne X 16 dX7_gives_5 rfl (fun cu => ?_) (fun cu => ?_)
  · rw [if_neg cu] at hf
    refine r_ldc X dX7_gives_16 kk_X7_69 ?_
    try subst hf
    exact r_ireturn X Y dX7_gives_18 rfl rfl
  · rw [if_pos cu] at hf
    obtain ⟨k, hk, rfl⟩ := noUnit_nat hU cu
    try simp only [nI_clamp (show k < 2 ^ 31 by omega)] at hf
    refine r_aload_n X 0 dX7_gives_8 rfl ?_
    refine r_iload_n X 2 dX7_gives_9 rfl ?_
    refine cl_X7_178 X (by decide) dX7_gives_10 (Nat.le_of_ble_eq_true rfl) (hv_x 0 _ rfl) (c_UH_noHour hv_x hv_d ) ?_
    refine r_if_eq X 19 dX7_gives_13 rfl (fun cv => ?_) (fun cv => ?_)
    · rw [if_pos cv] at hf
      obtain ⟨kh, hkh, rfl⟩ := noHour_nat hH cv
      try simp only [nI_clamp (show kh < 2 ^ 31 by omega)] at hf
      refine r_aload_n X 0 dX7_gives_19 rfl ?_
      refine gf_X7_26 X dX7_gives_20 (hv_x 0 _ rfl) rfl ?_
      refine r_iload_n X 2 dX7_gives_23 rfl ?_
      refine cl_X7_228 X (by decide) dX7_gives_24 (Nat.le_of_ble_eq_true rfl) (hv_d 0 _ rfl) (c_Day_unitsOn hv_d (by first | assumption | omega)) ?_
      refine r_istore_n [(0, .ref x), (1, .int (nI k)), (2, .int (nI kh)), (3, .int (f_Day_unitsOn U onn (nI kh)))] X dX7_gives_27 rfl (by decide) rfl ?_
      refine r_aload_n X 0 dX7_gives_28 rfl ?_
      refine gf_X7_26 X dX7_gives_29 (hv_x 0 _ rfl) rfl ?_
      refine r_iload_n X 2 dX7_gives_32 rfl ?_
      refine cl_X7_231 X (by decide) dX7_gives_33 (Nat.le_of_ble_eq_true rfl) (hv_d 0 _ rfl) (c_Day_unitsStarting hv_d (by first | assumption | omega)) ?_
      refine r_istore [(0, .ref x), (1, .int (nI k)), (2, .int (nI kh)), (3, .int (f_Day_unitsOn U onn (nI kh))), (4, .int (f_Day_unitsStarting U onn (nI kh)))] X dX7_gives_36 (by decide) rfl ?_
      refine r_aload_n X 0 dX7_gives_38 rfl ?_
      refine gf_X7_26 X dX7_gives_39 (hv_x 0 _ rfl) rfl ?_
      refine r_aload_n X 0 dX7_gives_42 rfl ?_
      refine gf_X7_26 X dX7_gives_43 (hv_x 0 _ rfl) rfl ?_
      refine gf_X7_181 X dX7_gives_46 (hv_d 0 _ rfl) rfl ?_
      refine r_iload_n X 2 dX7_gives_49 rfl ?_
      refine r_ialdn X (k0 := kh) dX7_gives_50 (hv_d 1 _ rfl) (by omega) (by decide) ?_
      refine r_iload_n X 3 dX7_gives_51 rfl ?_
      refine r_iload X 4 dX7_gives_52 rfl ?_
      refine cl_X7_241 X (by decide) dX7_gives_54 (Nat.le_of_ble_eq_true rfl) (hv_d 0 _ rfl) (c_Day_isMet hv_d (by first | assumption | omega)) ?_
      refine r_if_ne X 63 dX7_gives_57 rfl (fun c1 => ?_) (fun c1 => ?_)
      · rw [if_neg c1] at hf
        refine r_aload_n X 0 dX7_gives_63 rfl ?_
        refine gf_X7_26 X dX7_gives_64 (hv_x 0 _ rfl) rfl ?_
        refine r_iload_n X 1 dX7_gives_67 rfl ?_
        refine r_aload_n X 0 dX7_gives_68 rfl ?_
        refine gf_X7_26 X dX7_gives_69 (hv_x 0 _ rfl) rfl ?_
        refine gf_X7_181 X dX7_gives_72 (hv_d 0 _ rfl) rfl ?_
        refine r_iload_n X 2 dX7_gives_75 rfl ?_
        refine r_ialdn X (k0 := kh) dX7_gives_76 (hv_d 1 _ rfl) (by omega) (by decide) ?_
        refine r_iload_n X 3 dX7_gives_77 rfl ?_
        refine r_iload X 4 dX7_gives_78 rfl ?_
        refine cl_X7_244 X (by decide) dX7_gives_80 (Nat.le_of_ble_eq_true rfl) (hv_d 0 _ rfl) (c_Day_givenBy hv_d (by first | assumption | omega) (by first | assumption | omega) (by first | assumption | omega)) ?_
        try subst hf
        exact r_ireturn X Y dX7_gives_83 rfl rfl
      · rw [if_pos c1] at hf
        refine r_ldc X dX7_gives_60 kk_X7_169 ?_
        try subst hf
        exact r_ireturn X Y dX7_gives_62 rfl rfl
    · rw [if_neg cv] at hf
      refine r_ldc X dX7_gives_16 kk_X7_69 ?_
      try subst hf
      exact r_ireturn X Y dX7_gives_18 rfl rfl

def f_UH_plan (H : Nat) (U : Nat) (res : Int32) (dem : Nat → Int32) (kin : Nat → Int32) (hig : Nat → Int32) (pri : Nat → Int32) (ups : Nat → Int32) (dow : Nat → Int32) (onn : Nat → Int32) (ord : Nat → Nat) (flo : Nat → Int32) (sro : Nat → Int32) (sco : Nat → Int32) (wh : Int32) : Int32 := (if (f_UH_noDay H) = (0 : Int32) then (if wh = (0 : Int32) then (f_Day_planCost H U res dem kin hig pri ups dow onn ord flo sro sco) else (if wh = (1 : Int32) then (f_Day_hoursNotMet H U res dem hig onn flo sro) else (if wh = (2 : Int32) then (f_Day_unitsNotKeeping H U kin ups dow onn) else (if wh = (3 : Int32) then (f_Day_countStarts U onn) else (if wh = (4 : Int32) then res else (-1000001 : Int32)))))) else (-1000002 : Int32))
set_option maxRecDepth 20000 in
set_option maxHeartbeats 4000000 in
theorem c_UH_plan {G : mG} {h : mHp} {x : Nat} {fin : Int32} {lf : Int32} {kn : Int64} {ik : Int32} {H : Nat} {U : Nat} {res : Int32} {dem : Nat → Int32} {kin : Nat → Int32} {low : Nat → Int32} {hig : Nat → Int32} {pri : Nat → Int32} {sta : Nat → Int32} {ups : Nat → Int32} {dow : Nat → Int32} {onn : Nat → Int32} {ord : Nat → Nat} {flo : Nat → Int32} {sro : Nat → Int32} {sco : Nat → Int32} {wh : Int32} (hv_x : isV h x (uhL x fin lf kn ik)) (hv_d : isV h (x + 15) (dayL (x + 15) H U res dem kin low hig pri sta ups dow onn ord flo sro sco))  (hU : U ≤ 4) (hH : H ≤ 6) (hO : ∀ j, j < 4 → ord j < 4) : Ret G 4 mX7_plan [.ref x, .int wh] h (some (.int (f_UH_plan H U res dem kin hig pri ups dow onn ord flo sro sco wh))) h := by
  generalize hf : f_UH_plan H U res dem kin hig pri ups dow onn ord flo sro sco wh = R
  unfold f_UH_plan at hf
  refine Ret.of [(0, .ref x), (1, .int wh)] (by decide) (Nat.le_of_ble_eq_true rfl) rfl ?_
  rintro Z rfl X Y
  refine r_aload_n X 0 dX7_plan_0 rfl ?_
  refine cl_X7_162 X (by decide) dX7_plan_1 (Nat.le_of_ble_eq_true rfl) (hv_x 0 _ rfl) (c_UH_noDay hv_x hv_d ) ?_
  refine r_if_eq X 10 dX7_plan_4 rfl (fun c1 => ?_) (fun c1 => ?_)
  · rw [if_pos c1] at hf
    refine r_iload_n X 1 dX7_plan_10 rfl ?_
    by_cases c2 : wh = (0 : Int32)
    · rw [if_pos c2] at hf
      refine r_tsin X 44 dX7_plan_11 (by rw [c2]; decide) (by rw [c2]; decide) (by rw [c2]; rfl) rfl ?_
      refine r_aload_n X 0 dX7_plan_44 rfl ?_
      refine gf_X7_26 X dX7_plan_45 (hv_x 0 _ rfl) rfl ?_
      refine cl_X7_248 X (by decide) dX7_plan_48 (Nat.le_of_ble_eq_true rfl) (hv_d 0 _ rfl) (c_Day_planCost hv_d (by first | assumption | omega) (by first | assumption | omega) (by first | assumption | omega)) ?_
      try subst hf
      exact r_ireturn X Y dX7_plan_51 rfl rfl
    · rw [if_neg c2] at hf
      by_cases c3 : wh = (1 : Int32)
      · rw [if_pos c3] at hf
        refine r_tsin X 52 dX7_plan_11 (by rw [c3]; decide) (by rw [c3]; decide) (by rw [c3]; rfl) rfl ?_
        refine r_aload_n X 0 dX7_plan_52 rfl ?_
        refine gf_X7_26 X dX7_plan_53 (hv_x 0 _ rfl) rfl ?_
        refine cl_X7_251 X (by decide) dX7_plan_56 (Nat.le_of_ble_eq_true rfl) (hv_d 0 _ rfl) (c_Day_hoursNotMet hv_d (by first | assumption | omega) (by first | assumption | omega)) ?_
        try subst hf
        exact r_ireturn X Y dX7_plan_59 rfl rfl
      · rw [if_neg c3] at hf
        by_cases c4 : wh = (2 : Int32)
        · rw [if_pos c4] at hf
          refine r_tsin X 60 dX7_plan_11 (by rw [c4]; decide) (by rw [c4]; decide) (by rw [c4]; rfl) rfl ?_
          refine r_aload_n X 0 dX7_plan_60 rfl ?_
          refine gf_X7_26 X dX7_plan_61 (hv_x 0 _ rfl) rfl ?_
          refine cl_X7_254 X (by decide) dX7_plan_64 (Nat.le_of_ble_eq_true rfl) (hv_d 0 _ rfl) (c_Day_unitsNotKeeping hv_d (by first | assumption | omega) (by first | assumption | omega)) ?_
          try subst hf
          exact r_ireturn X Y dX7_plan_67 rfl rfl
        · rw [if_neg c4] at hf
          by_cases c5 : wh = (3 : Int32)
          · rw [if_pos c5] at hf
            refine r_tsin X 68 dX7_plan_11 (by rw [c5]; decide) (by rw [c5]; decide) (by rw [c5]; rfl) rfl ?_
            refine r_aload_n X 0 dX7_plan_68 rfl ?_
            refine gf_X7_26 X dX7_plan_69 (hv_x 0 _ rfl) rfl ?_
            refine cl_X7_257 X (by decide) dX7_plan_72 (Nat.le_of_ble_eq_true rfl) (hv_d 0 _ rfl) (c_Day_countStarts hv_d (by first | assumption | omega)) ?_
            try subst hf
            exact r_ireturn X Y dX7_plan_75 rfl rfl
          · rw [if_neg c5] at hf
            by_cases c6 : wh = (4 : Int32)
            · rw [if_pos c6] at hf
              refine r_tsin X 76 dX7_plan_11 (by rw [c6]; decide) (by rw [c6]; decide) (by rw [c6]; rfl) rfl ?_
              refine r_aload_n X 0 dX7_plan_76 rfl ?_
              refine gf_X7_26 X dX7_plan_77 (hv_x 0 _ rfl) rfl ?_
              refine gf_X7_184 X dX7_plan_80 (hv_d 0 _ rfl) rfl ?_
              try subst hf
              exact r_ireturn X Y dX7_plan_83 rfl rfl
            · rw [if_neg c6] at hf
              refine r_tsout X 84 dX7_plan_11 (by have a0 : ¬ wh.toInt = 0 := i32_ne c2; have a1 : ¬ wh.toInt = 1 := i32_ne c3; have a2 : ¬ wh.toInt = 2 := i32_ne c4; have a3 : ¬ wh.toInt = 3 := i32_ne c5; have a4 : ¬ wh.toInt = 4 := i32_ne c6; omega) rfl ?_
              refine r_ldc X dX7_plan_84 kk_X7_69 ?_
              try subst hf
              exact r_ireturn X Y dX7_plan_86 rfl rfl
  · rw [if_neg c1] at hf
    refine r_ldc X dX7_plan_7 kk_X7_158 ?_
    try subst hf
    exact r_ireturn X Y dX7_plan_9 rfl rfl
