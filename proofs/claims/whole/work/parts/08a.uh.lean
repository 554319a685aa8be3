def uhL (x : Nat) (fin lf : Int32) (kn : Int64) (ik : Int32) : List mC := [.inr (7, [.ref (x + 1), .ref (x + 13), .ref (x + 15), .ref (x + 29), .ref (x + 43), .ref (x + 72), .ref (x + 298), .ref (x + 319), .ref (x + 323), .int fin, .int lf, .long kn, .int ik])]

def f_UH_found (w : Int32) : Int32 × Int32 := ((-1000010 : Int32) - w, w)
set_option maxRecDepth 20000 in
set_option maxHeartbeats 4000000 in
theorem c_UH_found {G : mG} {h : mHp} {x : Nat} {fin : Int32} {lf : Int32} {kn : Int64} {ik : Int32} {w : Int32}    : Ret G 0 mX7_found [.ref x, .int w] (ov h x (uhL x fin lf kn ik)) (some (.int (f_UH_found w).1)) (ov h x (uhL x (f_UH_found w).2 lf kn ik)) := by
  generalize hf : f_UH_found w = R
  unfold f_UH_found at hf
  refine Ret.of [(0, .ref x), (1, .int w)] (by decide) (Nat.le_of_ble_eq_true rfl) rfl ?_
  rintro Z rfl X Y
  have hv_x : isV (ov h x (uhL x fin lf kn ik)) x (uhL x fin lf kn ik) := ov_isV
  refine r_aload_n X 0 dX7_found_0 rfl ?_
  refine r_iload_n X 1 dX7_found_1 rfl ?_
  refine pf_X7_268 X dX7_found_2 (hv_x 0 _ rfl) (Nat.le_of_ble_eq_true rfl) ?_
  refine SW.heq (h2 := (ov h x (uhL x w lf kn ik))) (ov_up 0 (Nat.le_of_ble_eq_true rfl) rfl) ?_
  have hv_x : isV (ov h x (uhL x w lf kn ik)) x (uhL x w lf kn ik) := ov_isV
  refine r_ldcw X dX7_found_5 kk_X7_353 ?_
  refine r_iload_n X 1 dX7_found_8 rfl ?_
  refine r_isub X dX7_found_9 ?_
  try subst hf
  exact r_ireturn X Y dX7_found_10 rfl rfl

def f_UH_well (v : Int32) : Int32 × Int32 := (v, (0 : Int32))
set_option maxRecDepth 20000 in
set_option maxHeartbeats 4000000 in
theorem c_UH_well {G : mG} {h : mHp} {x : Nat} {fin : Int32} {lf : Int32} {kn : Int64} {ik : Int32} {v : Int32}    : Ret G 0 mX7_well [.ref x, .int v] (ov h x (uhL x fin lf kn ik)) (some (.int (f_UH_well v).1)) (ov h x (uhL x (f_UH_well v).2 lf kn ik)) := by
  generalize hf : f_UH_well v = R
  unfold f_UH_well at hf
  refine Ret.of [(0, .ref x), (1, .int v)] (by decide) (Nat.le_of_ble_eq_true rfl) rfl ?_
  rintro Z rfl X Y
  have hv_x : isV (ov h x (uhL x fin lf kn ik)) x (uhL x fin lf kn ik) := ov_isV
  refine r_aload_n X 0 dX7_well_0 rfl ?_
  refine r_iconst X (0 : Int32) dX7_well_1 (by decide) ?_
  refine pf_X7_268 X dX7_well_2 (hv_x 0 _ rfl) (Nat.le_of_ble_eq_true rfl) ?_
  refine SW.heq (h2 := (ov h x (uhL x (0 : Int32) lf kn ik))) (ov_up 0 (Nat.le_of_ble_eq_true rfl) rfl) ?_
  have hv_x : isV (ov h x (uhL x (0 : Int32) lf kn ik)) x (uhL x (0 : Int32) lf kn ik) := ov_isV
  refine r_iload_n X 1 dX7_well_5 rfl ?_
  try subst hf
  exact r_ireturn X Y dX7_well_6 rfl rfl

def f_UH_noRow (r : Int32) : Int32 := if r < (0 : Int32) then (1 : Int32) else if r < (8 : Int32) then (0 : Int32) else (1 : Int32)
set_option maxRecDepth 20000 in
set_option maxHeartbeats 4000000 in
theorem c_UH_noRow {G : mG} {h : mHp} {x : Nat} {fin : Int32} {lf : Int32} {kn : Int64} {ik : Int32} {r : Int32} (hv_x : isV h x (uhL x fin lf kn ik))   : Ret G 0 mX7_noRow [.ref x, .int r] h (some (.int (f_UH_noRow r))) h := by
  generalize hf : f_UH_noRow r = R
  unfold f_UH_noRow at hf
  refine Ret.of [(0, .ref x), (1, .int r)] (by decide) (Nat.le_of_ble_eq_true rfl) rfl ?_
  rintro Z rfl X Y
  refine r_iload_n X 1 dX7_noRow_0 rfl ?_
  refine m_join (P := SW Z 15 [] [.int (if r < (0 : Int32) then (1 : Int32) else if r < (8 : Int32) then (0 : Int32) else (1 : Int32))] h) (fun K => ?_) ?_
  · refine r_if_lt X 10 dX7_noRow_1 rfl (fun c1 => ?_) (fun c1 => ?_)
    · skip
      refine r_iconst X (1 : Int32) dX7_noRow_10 (by decide) ?_
      refine r_goto X 15 dX7_noRow_11 rfl ?_
      refine SW.pick [] [] rfl ?_
      try simp only [if_pos c1] at K ⊢
      exact K
    · skip
      refine r_iload_n X 1 dX7_noRow_4 rfl ?_
      refine r_bipush X (8 : Int32) dX7_noRow_5 (by decide) ?_
      refine m_join (P := SW Z 15 [] [.int (if r < (8 : Int32) then (0 : Int32) else (1 : Int32))] h) (fun K => ?_) ?_
      · refine r_icmp_lt X 14 dX7_noRow_7 rfl (fun c2 => ?_) (fun c2 => ?_)
        · skip
          refine r_iconst X (0 : Int32) dX7_noRow_14 (by decide) ?_
          refine SW.pick [] [] rfl ?_
          try simp only [if_pos c2] at K ⊢
          exact K
        · skip
          refine r_iconst X (1 : Int32) dX7_noRow_10 (by decide) ?_
          refine r_goto X 15 dX7_noRow_11 rfl ?_
          refine SW.pick [] [] rfl ?_
          try simp only [if_neg c2] at K ⊢
          exact K
      try simp only [if_neg c1] at K ⊢
      exact K
  try subst hf
  exact r_zreturn X Y dX7_noRow_15 (by (repeat' split) <;> first | exact Or.inl rfl | exact Or.inr rfl) rfl rfl

def f_UH_noDay (H : Nat) : Int32 := if (nI H) = (0 : Int32) then (1 : Int32) else (0 : Int32)
set_option maxRecDepth 20000 in
set_option maxHeartbeats 4000000 in
theorem c_UH_noDay {G : mG} {h : mHp} {x : Nat} {fin : Int32} {lf : Int32} {kn : Int64} {ik : Int32} {H : Nat} {U : Nat} {res : Int32} {dem : Nat → Int32} {kin : Nat → Int32} {low : Nat → Int32} {hig : Nat → Int32} {pri : Nat → Int32} {sta : Nat → Int32} {ups : Nat → Int32} {dow : Nat → Int32} {onn : Nat → Int32} {ord : Nat → Nat} {flo : Nat → Int32} {sro : Nat → Int32} {sco : Nat → Int32} (hv_x : isV h x (uhL x fin lf kn ik)) (hv_d : isV h (x + 15) (dayL (x + 15) H U res dem kin low hig pri sta ups dow onn ord flo sro sco))   : Ret G 0 mX7_noDay [.ref x] h (some (.int (f_UH_noDay H))) h := by
  generalize hf : f_UH_noDay H = R
  unfold f_UH_noDay at hf
  refine Ret.of [(0, .ref x)] (by decide) (Nat.le_of_ble_eq_true rfl) rfl ?_
  rintro Z rfl X Y
  refine r_aload_n X 0 dX7_noDay_0 rfl ?_
  refine gf_X7_26 X dX7_noDay_1 (hv_x 0 _ rfl) rfl ?_
  refine gf_X7_260 X dX7_noDay_4 (hv_d 0 _ rfl) rfl ?_
  refine m_join (P := SW Z 15 [] [.int (if (nI H) = (0 : Int32) then (1 : Int32) else (0 : Int32))] h) (fun K => ?_) ?_
  · refine r_if_ne X 14 dX7_noDay_7 rfl (fun c1 => ?_) (fun c1 => ?_)
    · skip
      refine r_iconst X (0 : Int32) dX7_noDay_14 (by decide) ?_
      refine SW.pick [] [] rfl ?_
      try simp only [if_neg c1] at K ⊢
      exact K
    · skip
      refine r_iconst X (1 : Int32) dX7_noDay_10 (by decide) ?_
      refine r_goto X 15 dX7_noDay_11 rfl ?_
      refine SW.pick [] [] rfl ?_
      try simp only [if_pos c1] at K ⊢
      exact K
  try subst hf
  exact r_zreturn X Y dX7_noDay_15 (by (repeat' split) <;> first | exact Or.inl rfl | exact Or.inr rfl) rfl rfl

def f_UH_noHour (H : Nat) (hr : Int32) : Int32 := if hr < (0 : Int32) then (1 : Int32) else if hr < (nI H) then (0 : Int32) else (1 : Int32)
set_option maxRecDepth 20000 in
set_option maxHeartbeats 4000000 in
theorem c_UH_noHour {G : mG} {h : mHp} {x : Nat} {fin : Int32} {lf : Int32} {kn : Int64} {ik : Int32} {H : Nat} {U : Nat} {res : Int32} {dem : Nat → Int32} {kin : Nat → Int32} {low : Nat → Int32} {hig : Nat → Int32} {pri : Nat → Int32} {sta : Nat → Int32} {ups : Nat → Int32} {dow : Nat → Int32} {onn : Nat → Int32} {ord : Nat → Nat} {flo : Nat → Int32} {sro : Nat → Int32} {sco : Nat → Int32} {hr : Int32} (hv_x : isV h x (uhL x fin lf kn ik)) (hv_d : isV h (x + 15) (dayL (x + 15) H U res dem kin low hig pri sta ups dow onn ord flo sro sco))   : Ret G 0 mX7_noHour [.ref x, .int hr] h (some (.int (f_UH_noHour H hr))) h := by
  generalize hf : f_UH_noHour H hr = R
  unfold f_UH_noHour at hf
  refine Ret.of [(0, .ref x), (1, .int hr)] (by decide) (Nat.le_of_ble_eq_true rfl) rfl ?_
  rintro Z rfl X Y
  refine r_iload_n X 1 dX7_noHour_0 rfl ?_
  refine m_join (P := SW Z 20 [] [.int (if hr < (0 : Int32) then (1 : Int32) else if hr < (nI H) then (0 : Int32) else (1 : Int32))] h) (fun K => ?_) ?_
  · refine r_if_lt X 15 dX7_noHour_1 rfl (fun c1 => ?_) (fun c1 => ?_)
    · skip
      refine r_iconst X (1 : Int32) dX7_noHour_15 (by decide) ?_
      refine r_goto X 20 dX7_noHour_16 rfl ?_
      refine SW.pick [] [] rfl ?_
      try simp only [if_pos c1] at K ⊢
      exact K
    · skip
      refine r_iload_n X 1 dX7_noHour_4 rfl ?_
      refine r_aload_n X 0 dX7_noHour_5 rfl ?_
      refine gf_X7_26 X dX7_noHour_6 (hv_x 0 _ rfl) rfl ?_
      refine gf_X7_260 X dX7_noHour_9 (hv_d 0 _ rfl) rfl ?_
      refine m_join (P := SW Z 20 [] [.int (if hr < (nI H) then (0 : Int32) else (1 : Int32))] h) (fun K => ?_) ?_
      · refine r_icmp_lt X 19 dX7_noHour_12 rfl (fun c2 => ?_) (fun c2 => ?_)
        · skip
          refine r_iconst X (0 : Int32) dX7_noHour_19 (by decide) ?_
          refine SW.pick [] [] rfl ?_
          try simp only [if_pos c2] at K ⊢
          exact K
        · skip
          refine r_iconst X (1 : Int32) dX7_noHour_15 (by decide) ?_
          refine r_goto X 20 dX7_noHour_16 rfl ?_
          refine SW.pick [] [] rfl ?_
          try simp only [if_neg c2] at K ⊢
          exact K
      try simp only [if_neg c1] at K ⊢
      exact K
  try subst hf
  exact r_zreturn X Y dX7_noHour_20 (by (repeat' split) <;> first | exact Or.inl rfl | exact Or.inr rfl) rfl rfl

def f_UH_noUnit (U : Nat) (u : Int32) : Int32 := if u < (0 : Int32) then (1 : Int32) else if u < (nI U) then (0 : Int32) else (1 : Int32)
set_option maxRecDepth 20000 in
set_option maxHeartbeats 4000000 in
theorem c_UH_noUnit {G : mG} {h : mHp} {x : Nat} {fin : Int32} {lf : Int32} {kn : Int64} {ik : Int32} {H : Nat} {U : Nat} {res : Int32} {dem : Nat → Int32} {kin : Nat → Int32} {low : Nat → Int32} {hig : Nat → Int32} {pri : Nat → Int32} {sta : Nat → Int32} {ups : Nat → Int32} {dow : Nat → Int32} {onn : Nat → Int32} {ord : Nat → Nat} {flo : Nat → Int32} {sro : Nat → Int32} {sco : Nat → Int32} {u : Int32} (hv_x : isV h x (uhL x fin lf kn ik)) (hv_d : isV h (x + 15) (dayL (x + 15) H U res dem kin low hig pri sta ups dow onn ord flo sro sco))   : Ret G 0 mX7_noUnit [.ref x, .int u] h (some (.int (f_UH_noUnit U u))) h := by
  generalize hf : f_UH_noUnit U u = R
  unfold f_UH_noUnit at hf
  refine Ret.of [(0, .ref x), (1, .int u)] (by decide) (Nat.le_of_ble_eq_true rfl) rfl ?_
  rintro Z rfl X Y
  refine r_iload_n X 1 dX7_noUnit_0 rfl ?_
  refine m_join (P := SW Z 20 [] [.int (if u < (0 : Int32) then (1 : Int32) else if u < (nI U) then (0 : Int32) else (1 : Int32))] h) (fun K => ?_) ?_
  · refine r_if_lt X 15 dX7_noUnit_1 rfl (fun c1 => ?_) (fun c1 => ?_)
    · skip
      refine r_iconst X (1 : Int32) dX7_noUnit_15 (by decide) ?_
      refine r_goto X 20 dX7_noUnit_16 rfl ?_
      refine SW.pick [] [] rfl ?_
      try simp only [if_pos c1] at K ⊢
      exact K
    · skip
      refine r_iload_n X 1 dX7_noUnit_4 rfl ?_
      refine r_aload_n X 0 dX7_noUnit_5 rfl ?_
      refine gf_X7_26 X dX7_noUnit_6 (hv_x 0 _ rfl) rfl ?_
      refine gf_X7_145 X dX7_noUnit_9 (hv_d 0 _ rfl) rfl ?_
      refine m_join (P := SW Z 20 [] [.int (if u < (nI U) then (0 : Int32) else (1 : Int32))] h) (fun K => ?_) ?_
      · refine r_icmp_lt X 19 dX7_noUnit_12 rfl (fun c2 => ?_) (fun c2 => ?_)
        · skip
          refine r_iconst X (0 : Int32) dX7_noUnit_19 (by decide) ?_
          refine SW.pick [] [] rfl ?_
          try simp only [if_pos c2] at K ⊢
          exact K
        · skip
          refine r_iconst X (1 : Int32) dX7_noUnit_15 (by decide) ?_
          refine r_goto X 20 dX7_noUnit_16 rfl ?_
          refine SW.pick [] [] rfl ?_
          try simp only [if_neg c2] at K ⊢
          exact K
      try simp only [if_neg c1] at K ⊢
      exact K
  try subst hf
  exact r_zreturn X Y dX7_noUnit_20 (by (repeat' split) <;> first | exact Or.inl rfl | exact Or.inr rfl) rfl rfl

def f_UH_fault (lf : Int32) : Int32 := lf
set_option maxRecDepth 20000 in
set_option maxHeartbeats 4000000 in
theorem c_UH_fault {G : mG} {h : mHp} {x : Nat} {fin : Int32} {lf : Int32} {kn : Int64} {ik : Int32} (hv_x : isV h x (uhL x fin lf kn ik))   : Ret G 0 mX7_fault [.ref x] h (some (.int (f_UH_fault lf))) h := by
  generalize hf : f_UH_fault lf = R
  unfold f_UH_fault at hf
  refine Ret.of [(0, .ref x)] (by decide) (Nat.le_of_ble_eq_true rfl) rfl ?_
  rintro Z rfl X Y
  refine r_aload_n X 0 dX7_fault_0 rfl ?_
  refine gf_X7_128 X dX7_fault_1 (hv_x 0 _ rfl) rfl ?_
  try subst hf
  exact r_ireturn X Y dX7_fault_4 rfl rfl

def f_UH_status (fin : Int32) : Int32 := fin
set_option maxRecDepth 20000 in
set_option maxHeartbeats 4000000 in
theorem c_UH_status {G : mG} {h : mHp} {x : Nat} {fin : Int32} {lf : Int32} {kn : Int64} {ik : Int32} (hv_x : isV h x (uhL x fin lf kn ik))   : Ret G 0 mX7_status [.ref x] h (some (.int (f_UH_status fin))) h := by
  generalize hf : f_UH_status fin = R
  unfold f_UH_status at hf
  refine Ret.of [(0, .ref x)] (by decide) (Nat.le_of_ble_eq_true rfl) rfl ?_
  rintro Z rfl X Y
  refine r_aload_n X 0 dX7_status_0 rfl ?_
  refine gf_X7_268 X dX7_status_1 (hv_x 0 _ rfl) rfl ?_
  try subst hf
  exact r_ireturn X Y dX7_status_4 rfl rfl
