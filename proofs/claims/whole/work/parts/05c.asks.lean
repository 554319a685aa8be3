def askL (a : Nat) (left : Nat → Int32) (ln : Nat) (num kd hi ho : Int32) : List mC := [.inr (1, [.ref (a + 1), .int (nI ln), .int num, .int kd, .int hi, .int ho]), .inl (0, 16, .inl left)]

def f_Asks_leave (left : Nat → Int32) (ln : Nat) (bd : Int32) : (Nat → Int32) × Nat := ((if (nI ln) < (16 : Int32) then upd left ln bd else left), (if (nI ln) < (16 : Int32) then ln + 1 else ln))
set_option maxRecDepth 20000 in
set_option maxHeartbeats 4000000 in
theorem c_Asks_leave {G : mG} {h : mHp} {a : Nat} {left : Nat → Int32} {ln : Nat} {num : Int32} {kd : Int32} {hi : Int32} {ho : Int32} {bd : Int32}   (hl : ln ≤ 16) : Ret G 0 mX1_leave [.ref a, .int bd] (ov h a (askL a left ln num kd hi ho)) none (ov h a (askL a (f_Asks_leave left ln bd).1 (f_Asks_leave left ln bd).2 num kd hi ho)) := by
  generalize hf : f_Asks_leave left ln bd = R
  unfold f_Asks_leave at hf
  refine Ret.of [(0, .ref a), (1, .int bd)] (by decide) (Nat.le_of_ble_eq_true rfl) rfl ?_
  rintro Z rfl X Y
  have hv_a : isV (ov h a (askL a left ln num kd hi ho)) a (askL a left ln num kd hi ho) := ov_isV
  refine r_aload_n X 0 dX1_leave_0 rfl ?_
  refine gf_X1_15 X dX1_leave_1 (hv_a 0 _ rfl) rfl ?_
  refine r_bipush X (16 : Int32) dX1_leave_4 (by decide) ?_
  refine m_join (P := SW Z 29 [] [] (ov h a (askL a (if (nI ln) < (16 : Int32) then upd left ln bd else left) (if (nI ln) < (16 : Int32) then ln + 1 else ln) num kd hi ho))) (fun K => ?_) ?_
  · refine r_icmp_ge X 29 dX1_leave_6 rfl (fun c0 => ?_) (fun c0 => ?_)
    · skip
      refine SW.pick [] [] rfl ?_
      try simp only [if_neg c0] at K ⊢
      exact K
    · skip
      have hx := nI_ltX (b := 16) c0 (by omega) (by omega)
      refine r_aload_n X 0 dX1_leave_9 rfl ?_
      refine gf_X1_11 X dX1_leave_10 (hv_a 0 _ rfl) rfl ?_
      refine r_aload_n X 0 dX1_leave_13 rfl ?_
      refine gf_X1_15 X dX1_leave_14 (hv_a 0 _ rfl) rfl ?_
      refine r_iload_n X 1 dX1_leave_17 rfl ?_
      refine r_iastn X (k0 := ln) dX1_leave_18 (hv_a 1 _ rfl) (by omega) (by first | decide | omega) ?_
      refine SW.heq (h2 := (ov h a (askL a (upd left ln bd) ln num kd hi ho))) (ov_up 1 (Nat.le_of_ble_eq_true rfl) rfl) ?_
      have hv_a : isV (ov h a (askL a (upd left ln bd) ln num kd hi ho)) a (askL a (upd left ln bd) ln num kd hi ho) := ov_isV
      refine r_aload_n X 0 dX1_leave_19 rfl ?_
      refine r_dup X dX1_leave_20 rfl ?_
      refine gf_X1_15 X dX1_leave_21 (hv_a 0 _ rfl) rfl ?_
      refine r_iconst X (1 : Int32) dX1_leave_24 (by decide) ?_
      refine r_iaddn X (a := ln) (b := 1) dX1_leave_25 ?_
      refine pf_X1_15 X dX1_leave_26 (hv_a 0 _ rfl) (Nat.le_of_ble_eq_true rfl) ?_
      refine SW.heq (h2 := (ov h a (askL a (upd left ln bd) (ln + 1) num kd hi ho))) (ov_up 0 (Nat.le_of_ble_eq_true rfl) rfl) ?_
      have hv_a : isV (ov h a (askL a (upd left ln bd) (ln + 1) num kd hi ho)) a (askL a (upd left ln bd) (ln + 1) num kd hi ho) := ov_isV
      refine SW.pick [] [] rfl ?_
      try simp only [if_pos c0] at K ⊢
      exact K
  have hv_a : isV (ov h a (askL a (if (nI ln) < (16 : Int32) then upd left ln bd else left) (if (nI ln) < (16 : Int32) then ln + 1 else ln) num kd hi ho)) a (askL a (if (nI ln) < (16 : Int32) then upd left ln bd else left) (if (nI ln) < (16 : Int32) then ln + 1 else ln) num kd hi ho) := ov_isV
  try subst hf
  exact r_return X Y dX1_leave_29 rfl rfl
theorem Asks_leave_le {left : Nat → Int32} {ln : Nat} {bd : Int32} (h : ln ≤ 16) : (f_Asks_leave left ln bd).2 ≤ 16 := by
  unfold f_Asks_leave
  (repeat' split) <;> dsimp only <;> (first | omega | (rename_i c; have := nI_ltX (b := 16) c (by omega) (by omega); omega))

def f_Asks_sizeLent (left : Nat → Int32) (ln : Nat) (hi : Int32) : Int32 × (Nat → Int32) × Nat := ((fun q1 => (hi, q1.1, q1.2)) (f_Asks_leave left ln (10 : Int32)))
set_option maxRecDepth 20000 in
set_option maxHeartbeats 4000000 in
theorem c_Asks_sizeLent {G : mG} {h : mHp} {a : Nat} {left : Nat → Int32} {ln : Nat} {num : Int32} {kd : Int32} {hi : Int32} {ho : Int32}   (hl : ln ≤ 16) : Ret G 1 mX1_sizeLent [.ref a] (ov h a (askL a left ln num kd hi ho)) (some (.int (f_Asks_sizeLent left ln hi).1)) (ov h a (askL a (f_Asks_sizeLent left ln hi).2.1 (f_Asks_sizeLent left ln hi).2.2 num kd hi ho)) := by
  generalize hf : f_Asks_sizeLent left ln hi = R
  unfold f_Asks_sizeLent at hf
  refine Ret.of [(0, .ref a)] (by decide) (Nat.le_of_ble_eq_true rfl) rfl ?_
  rintro Z rfl X Y
  have hv_a : isV (ov h a (askL a left ln num kd hi ho)) a (askL a left ln num kd hi ho) := ov_isV
  refine r_aload_n X 0 dX1_sizeLent_0 rfl ?_
  refine r_bipush X (10 : Int32) dX1_sizeLent_1 (by decide) ?_
  refine cl_X1_48 X (by decide) dX1_sizeLent_3 (Nat.le_of_ble_eq_true rfl) (hv_a 0 _ rfl) (c_Asks_leave  (by assumption)) ?_
  obtain ⟨q1, eq1⟩ : ∃ q, q = f_Asks_leave left ln (10 : Int32) := ⟨_, rfl⟩
  rw [← eq1]
  rw [← eq1] at hf
  try dsimp only at hf
  have hl_q1 : q1.2 ≤ 16 := by rw [eq1]; exact Asks_leave_le (by assumption)
  have hv_a : isV (ov h a (askL a q1.1 q1.2 num kd hi ho)) a (askL a q1.1 q1.2 num kd hi ho) := ov_isV
  refine r_aload_n X 0 dX1_sizeLent_6 rfl ?_
  refine gf_X1_33 X dX1_sizeLent_7 (hv_a 0 _ rfl) rfl ?_
  try subst hf
  exact r_ireturn X Y dX1_sizeLent_10 rfl rfl
theorem Asks_sizeLent_le {left : Nat → Int32} {ln : Nat} {hi : Int32} (h : ln ≤ 16) : (f_Asks_sizeLent left ln hi).2.2 ≤ 16 := by
  unfold f_Asks_sizeLent
  (repeat' split) <;> dsimp only <;> (first | (repeat (first | assumption | apply Asks_leave_le)) | omega)

def f_Asks_markLent (left : Nat → Int32) (ln : Nat) (num : Int32) : Int32 × (Nat → Int32) × Nat := ((fun q1 => (num, q1.1, q1.2)) (f_Asks_leave left ln (20 : Int32)))
set_option maxRecDepth 20000 in
set_option maxHeartbeats 4000000 in
theorem c_Asks_markLent {G : mG} {h : mHp} {a : Nat} {left : Nat → Int32} {ln : Nat} {num : Int32} {kd : Int32} {hi : Int32} {ho : Int32}   (hl : ln ≤ 16) : Ret G 1 mX1_markLent [.ref a] (ov h a (askL a left ln num kd hi ho)) (some (.int (f_Asks_markLent left ln num).1)) (ov h a (askL a (f_Asks_markLent left ln num).2.1 (f_Asks_markLent left ln num).2.2 num kd hi ho)) := by
  generalize hf : f_Asks_markLent left ln num = R
  unfold f_Asks_markLent at hf
  refine Ret.of [(0, .ref a)] (by decide) (Nat.le_of_ble_eq_true rfl) rfl ?_
  rintro Z rfl X Y
  have hv_a : isV (ov h a (askL a left ln num kd hi ho)) a (askL a left ln num kd hi ho) := ov_isV
  refine r_aload_n X 0 dX1_markLent_0 rfl ?_
  refine r_bipush X (20 : Int32) dX1_markLent_1 (by decide) ?_
  refine cl_X1_48 X (by decide) dX1_markLent_3 (Nat.le_of_ble_eq_true rfl) (hv_a 0 _ rfl) (c_Asks_leave  (by assumption)) ?_
  obtain ⟨q1, eq1⟩ : ∃ q, q = f_Asks_leave left ln (20 : Int32) := ⟨_, rfl⟩
  rw [← eq1]
  rw [← eq1] at hf
  try dsimp only at hf
  have hl_q1 : q1.2 ≤ 16 := by rw [eq1]; exact Asks_leave_le (by assumption)
  have hv_a : isV (ov h a (askL a q1.1 q1.2 num kd hi ho)) a (askL a q1.1 q1.2 num kd hi ho) := ov_isV
  refine r_aload_n X 0 dX1_markLent_6 rfl ?_
  refine gf_X1_19 X dX1_markLent_7 (hv_a 0 _ rfl) rfl ?_
  try subst hf
  exact r_ireturn X Y dX1_markLent_10 rfl rfl
theorem Asks_markLent_le {left : Nat → Int32} {ln : Nat} {num : Int32} (h : ln ≤ 16) : (f_Asks_markLent left ln num).2.2 ≤ 16 := by
  unfold f_Asks_markLent
  (repeat' split) <;> dsimp only <;> (first | (repeat (first | assumption | apply Asks_leave_le | apply Asks_sizeLent_le)) | omega)

def f_Asks_markOfPlain (left : Nat → Int32) (ln : Nat) (num : Int32) (ho : Int32) : Int32 × (Nat → Int32) × Nat := ((fun q1 => ((fun q2 => (q2.1 + ho, q2.2.1, q2.2.2)) (f_Asks_markLent q1.1 q1.2 num))) (f_Asks_leave left ln (21 : Int32)))
set_option maxRecDepth 20000 in
set_option maxHeartbeats 4000000 in
theorem c_Asks_markOfPlain {G : mG} {h : mHp} {a : Nat} {left : Nat → Int32} {ln : Nat} {num : Int32} {kd : Int32} {hi : Int32} {ho : Int32}   (hl : ln ≤ 16) : Ret G 2 mX1_markOfPlain [.ref a] (ov h a (askL a left ln num kd hi ho)) (some (.int (f_Asks_markOfPlain left ln num ho).1)) (ov h a (askL a (f_Asks_markOfPlain left ln num ho).2.1 (f_Asks_markOfPlain left ln num ho).2.2 num kd hi ho)) := by
  generalize hf : f_Asks_markOfPlain left ln num ho = R
  unfold f_Asks_markOfPlain at hf
  refine Ret.of [(0, .ref a)] (by decide) (Nat.le_of_ble_eq_true rfl) rfl ?_
  rintro Z rfl X Y
  have hv_a : isV (ov h a (askL a left ln num kd hi ho)) a (askL a left ln num kd hi ho) := ov_isV
  refine r_aload_n X 0 dX1_markOfPlain_0 rfl ?_
  refine r_bipush X (21 : Int32) dX1_markOfPlain_1 (by decide) ?_
  refine cl_X1_48 X (by decide) dX1_markOfPlain_3 (Nat.le_of_ble_eq_true rfl) (hv_a 0 _ rfl) (c_Asks_leave  (by assumption)) ?_
  obtain ⟨q1, eq1⟩ : ∃ q, q = f_Asks_leave left ln (21 : Int32) := ⟨_, rfl⟩
  rw [← eq1]
  rw [← eq1] at hf
  try dsimp only at hf
  have hl_q1 : q1.2 ≤ 16 := by rw [eq1]; exact Asks_leave_le (by assumption)
  have hv_a : isV (ov h a (askL a q1.1 q1.2 num kd hi ho)) a (askL a q1.1 q1.2 num kd hi ho) := ov_isV
  refine r_aload_n X 0 dX1_markOfPlain_6 rfl ?_
  refine cl_X1_74 X (by decide) dX1_markOfPlain_7 (Nat.le_of_ble_eq_true rfl) (hv_a 0 _ rfl) (c_Asks_markLent  (by assumption)) ?_
  obtain ⟨q2, eq2⟩ : ∃ q, q = f_Asks_markLent q1.1 q1.2 num := ⟨_, rfl⟩
  rw [← eq2]
  rw [← eq2] at hf
  try dsimp only at hf
  have hl_q2 : q2.2.2 ≤ 16 := by rw [eq2]; exact Asks_markLent_le (by assumption)
  have hv_a : isV (ov h a (askL a q2.2.1 q2.2.2 num kd hi ho)) a (askL a q2.2.1 q2.2.2 num kd hi ho) := ov_isV
  refine r_aload_n X 0 dX1_markOfPlain_10 rfl ?_
  refine gf_X1_45 X dX1_markOfPlain_11 (hv_a 0 _ rfl) rfl ?_
  refine r_iadd X dX1_markOfPlain_14 ?_
  try subst hf
  exact r_ireturn X Y dX1_markOfPlain_15 rfl rfl
theorem Asks_markOfPlain_le {left : Nat → Int32} {ln : Nat} {num : Int32} {ho : Int32} (h : ln ≤ 16) : (f_Asks_markOfPlain left ln num ho).2.2 ≤ 16 := by
  unfold f_Asks_markOfPlain
  (repeat' split) <;> dsimp only <;> (first | (repeat (first | assumption | apply Asks_leave_le | apply Asks_sizeLent_le | apply Asks_markLent_le)) | omega)

def f_Asks_markOfPlains (left : Nat → Int32) (ln : Nat) (num : Int32) (kd : Int32) (ho : Int32) : Int32 × (Nat → Int32) × Nat := (if kd = (2 : Int32) then ((fun q1 => ((fun q2 => ((2 : Int32) * q2.1, q2.2.1, q2.2.2)) (f_Asks_markOfPlain q1.1 q1.2 num ho))) (f_Asks_leave left ln (24 : Int32))) else (if kd = (3 : Int32) then ((fun q3 => ((fun q4 => (q4.1 - (1000 : Int32), q4.2.1, q4.2.2)) (f_Asks_markOfPlain q3.1 q3.2 num ho))) (f_Asks_leave left ln (22 : Int32))) else ((fun q5 => (q5.1, q5.2.1, q5.2.2)) (f_Asks_markOfPlain left ln num ho))))
set_option maxRecDepth 20000 in
set_option maxHeartbeats 4000000 in
theorem c_Asks_markOfPlains {G : mG} {h : mHp} {a : Nat} {left : Nat → Int32} {ln : Nat} {num : Int32} {kd : Int32} {hi : Int32} {ho : Int32}   (hl : ln ≤ 16) : Ret G 3 mX1_markOfPlains [.ref a] (ov h a (askL a left ln num kd hi ho)) (some (.int (f_Asks_markOfPlains left ln num kd ho).1)) (ov h a (askL a (f_Asks_markOfPlains left ln num kd ho).2.1 (f_Asks_markOfPlains left ln num kd ho).2.2 num kd hi ho)) := by
  generalize hf : f_Asks_markOfPlains left ln num kd ho = R
  unfold f_Asks_markOfPlains at hf
  refine Ret.of [(0, .ref a)] (by decide) (Nat.le_of_ble_eq_true rfl) rfl ?_
  rintro Z rfl X Y
  have hv_a : isV (ov h a (askL a left ln num kd hi ho)) a (askL a left ln num kd hi ho) := ov_isV
  refine r_aload_n X 0 dX1_markOfPlains_0 rfl ?_
  refine gf_X1_27 X dX1_markOfPlains_1 (hv_a 0 _ rfl) rfl ?_
  by_cases c1 : kd = (2 : Int32)
  · rw [if_pos c1] at hf
    refine r_lsw X 32 dX1_markOfPlains_4 (by decide) (by rw [c1] <;> rfl) rfl ?_
    refine r_aload_n X 0 dX1_markOfPlains_32 rfl ?_
    refine r_bipush X (24 : Int32) dX1_markOfPlains_33 (by decide) ?_
    refine cl_X1_48 X (by decide) dX1_markOfPlains_35 (Nat.le_of_ble_eq_true rfl) (hv_a 0 _ rfl) (c_Asks_leave  (by assumption)) ?_
    obtain ⟨q1, eq1⟩ : ∃ q, q = f_Asks_leave left ln (24 : Int32) := ⟨_, rfl⟩
    rw [← eq1]
    rw [← eq1] at hf
    try dsimp only at hf
    have hl_q1 : q1.2 ≤ 16 := by rw [eq1]; exact Asks_leave_le (by assumption)
    have hv_a : isV (ov h a (askL a q1.1 q1.2 num kd hi ho)) a (askL a q1.1 q1.2 num kd hi ho) := ov_isV
    refine r_iconst X (2 : Int32) dX1_markOfPlains_38 (by decide) ?_
    refine r_aload_n X 0 dX1_markOfPlains_39 rfl ?_
    refine cl_X1_68 X (by decide) dX1_markOfPlains_40 (Nat.le_of_ble_eq_true rfl) (hv_a 0 _ rfl) (c_Asks_markOfPlain  (by assumption)) ?_
    obtain ⟨q2, eq2⟩ : ∃ q, q = f_Asks_markOfPlain q1.1 q1.2 num ho := ⟨_, rfl⟩
    rw [← eq2]
    rw [← eq2] at hf
    try dsimp only at hf
    have hl_q2 : q2.2.2 ≤ 16 := by rw [eq2]; exact Asks_markOfPlain_le (by assumption)
    have hv_a : isV (ov h a (askL a q2.2.1 q2.2.2 num kd hi ho)) a (askL a q2.2.1 q2.2.2 num kd hi ho) := ov_isV
    refine r_imul X dX1_markOfPlains_43 ?_
    try subst hf
    exact r_ireturn X Y dX1_markOfPlains_44 rfl rfl
  · rw [if_neg c1] at hf
    by_cases c2 : kd = (3 : Int32)
    · rw [if_pos c2] at hf
      refine r_lsw X 45 dX1_markOfPlains_4 (by decide) (by rw [c2] <;> rfl) rfl ?_
      refine r_aload_n X 0 dX1_markOfPlains_45 rfl ?_
      refine r_bipush X (22 : Int32) dX1_markOfPlains_46 (by decide) ?_
      refine cl_X1_48 X (by decide) dX1_markOfPlains_48 (Nat.le_of_ble_eq_true rfl) (hv_a 0 _ rfl) (c_Asks_leave  (by assumption)) ?_
      obtain ⟨q3, eq3⟩ : ∃ q, q = f_Asks_leave left ln (22 : Int32) := ⟨_, rfl⟩
      rw [← eq3]
      rw [← eq3] at hf
      try dsimp only at hf
      have hl_q3 : q3.2 ≤ 16 := by rw [eq3]; exact Asks_leave_le (by assumption)
      have hv_a : isV (ov h a (askL a q3.1 q3.2 num kd hi ho)) a (askL a q3.1 q3.2 num kd hi ho) := ov_isV
      refine r_aload_n X 0 dX1_markOfPlains_51 rfl ?_
      refine cl_X1_68 X (by decide) dX1_markOfPlains_52 (Nat.le_of_ble_eq_true rfl) (hv_a 0 _ rfl) (c_Asks_markOfPlain  (by assumption)) ?_
      obtain ⟨q4, eq4⟩ : ∃ q, q = f_Asks_markOfPlain q3.1 q3.2 num ho := ⟨_, rfl⟩
      rw [← eq4]
      rw [← eq4] at hf
      try dsimp only at hf
      have hl_q4 : q4.2.2 ≤ 16 := by rw [eq4]; exact Asks_markOfPlain_le (by assumption)
      have hv_a : isV (ov h a (askL a q4.2.1 q4.2.2 num kd hi ho)) a (askL a q4.2.1 q4.2.2 num kd hi ho) := ov_isV
      refine r_sipush X (1000 : Int32) dX1_markOfPlains_55 (by decide) ?_
      refine r_isub X dX1_markOfPlains_58 ?_
      try subst hf
      exact r_ireturn X Y dX1_markOfPlains_59 rfl rfl
    · rw [if_neg c2] at hf
      refine r_lsw X 60 dX1_markOfPlains_4 (by decide) ((lv_osw c1 rfl).trans ((lv_osw c2 rfl).trans rfl)) rfl ?_
      refine r_aload_n X 0 dX1_markOfPlains_60 rfl ?_
      refine cl_X1_68 X (by decide) dX1_markOfPlains_61 (Nat.le_of_ble_eq_true rfl) (hv_a 0 _ rfl) (c_Asks_markOfPlain  (by assumption)) ?_
      obtain ⟨q5, eq5⟩ : ∃ q, q = f_Asks_markOfPlain left ln num ho := ⟨_, rfl⟩
      rw [← eq5]
      rw [← eq5] at hf
      try dsimp only at hf
      have hl_q5 : q5.2.2 ≤ 16 := by rw [eq5]; exact Asks_markOfPlain_le (by assumption)
      have hv_a : isV (ov h a (askL a q5.2.1 q5.2.2 num kd hi ho)) a (askL a q5.2.1 q5.2.2 num kd hi ho) := ov_isV
      try subst hf
      exact r_ireturn X Y dX1_markOfPlains_64 rfl rfl
theorem Asks_markOfPlains_le {left : Nat → Int32} {ln : Nat} {num : Int32} {kd : Int32} {ho : Int32} (h : ln ≤ 16) : (f_Asks_markOfPlains left ln num kd ho).2.2 ≤ 16 := by
  unfold f_Asks_markOfPlains
  (repeat' split) <;> dsimp only <;> (first | (repeat (first | assumption | apply Asks_leave_le | apply Asks_sizeLent_le | apply Asks_markLent_le | apply Asks_markOfPlain_le)) | omega)

def f_Asks_sizeOfPlain (left : Nat → Int32) (ln : Nat) (num : Int32) (kd : Int32) (hi : Int32) (ho : Int32) : Int32 × (Nat → Int32) × Nat := ((fun q1 => ((fun q2 => ((fun q3 => (q2.1 + q3.1, q3.2.1, q3.2.2)) (f_Asks_markOfPlains q2.2.1 q2.2.2 num kd ho))) (f_Asks_sizeLent q1.1 q1.2 hi))) (f_Asks_leave left ln (11 : Int32)))
set_option maxRecDepth 20000 in
set_option maxHeartbeats 4000000 in
theorem c_Asks_sizeOfPlain {G : mG} {h : mHp} {a : Nat} {left : Nat → Int32} {ln : Nat} {num : Int32} {kd : Int32} {hi : Int32} {ho : Int32}   (hl : ln ≤ 16) : Ret G 4 mX1_sizeOfPlain [.ref a] (ov h a (askL a left ln num kd hi ho)) (some (.int (f_Asks_sizeOfPlain left ln num kd hi ho).1)) (ov h a (askL a (f_Asks_sizeOfPlain left ln num kd hi ho).2.1 (f_Asks_sizeOfPlain left ln num kd hi ho).2.2 num kd hi ho)) := by
  generalize hf : f_Asks_sizeOfPlain left ln num kd hi ho = R
  unfold f_Asks_sizeOfPlain at hf
  refine Ret.of [(0, .ref a)] (by decide) (Nat.le_of_ble_eq_true rfl) rfl ?_
  rintro Z rfl X Y
  have hv_a : isV (ov h a (askL a left ln num kd hi ho)) a (askL a left ln num kd hi ho) := ov_isV
  refine r_aload_n X 0 dX1_sizeOfPlain_0 rfl ?_
  refine r_bipush X (11 : Int32) dX1_sizeOfPlain_1 (by decide) ?_
  refine cl_X1_48 X (by decide) dX1_sizeOfPlain_3 (Nat.le_of_ble_eq_true rfl) (hv_a 0 _ rfl) (c_Asks_leave  (by assumption)) ?_
  obtain ⟨q1, eq1⟩ : ∃ q, q = f_Asks_leave left ln (11 : Int32) := ⟨_, rfl⟩
  rw [← eq1]
  rw [← eq1] at hf
  try dsimp only at hf
  have hl_q1 : q1.2 ≤ 16 := by rw [eq1]; exact Asks_leave_le (by assumption)
  have hv_a : isV (ov h a (askL a q1.1 q1.2 num kd hi ho)) a (askL a q1.1 q1.2 num kd hi ho) := ov_isV
  refine r_aload_n X 0 dX1_sizeOfPlain_6 rfl ?_
  refine cl_X1_71 X (by decide) dX1_sizeOfPlain_7 (Nat.le_of_ble_eq_true rfl) (hv_a 0 _ rfl) (c_Asks_sizeLent  (by assumption)) ?_
  obtain ⟨q2, eq2⟩ : ∃ q, q = f_Asks_sizeLent q1.1 q1.2 hi := ⟨_, rfl⟩
  rw [← eq2]
  rw [← eq2] at hf
  try dsimp only at hf
  have hl_q2 : q2.2.2 ≤ 16 := by rw [eq2]; exact Asks_sizeLent_le (by assumption)
  have hv_a : isV (ov h a (askL a q2.2.1 q2.2.2 num kd hi ho)) a (askL a q2.2.1 q2.2.2 num kd hi ho) := ov_isV
  refine r_istore_n [(0, .ref a), (1, .int q2.1)] X dX1_sizeOfPlain_10 rfl (by decide) rfl ?_
  refine r_iload_n X 1 dX1_sizeOfPlain_11 rfl ?_
  refine r_aload_n X 0 dX1_sizeOfPlain_12 rfl ?_
  refine cl_X1_62 X (by decide) dX1_sizeOfPlain_13 (Nat.le_of_ble_eq_true rfl) (hv_a 0 _ rfl) (c_Asks_markOfPlains  (by assumption)) ?_
  obtain ⟨q3, eq3⟩ : ∃ q, q = f_Asks_markOfPlains q2.2.1 q2.2.2 num kd ho := ⟨_, rfl⟩
  rw [← eq3]
  rw [← eq3] at hf
  try dsimp only at hf
  have hl_q3 : q3.2.2 ≤ 16 := by rw [eq3]; exact Asks_markOfPlains_le (by assumption)
  have hv_a : isV (ov h a (askL a q3.2.1 q3.2.2 num kd hi ho)) a (askL a q3.2.1 q3.2.2 num kd hi ho) := ov_isV
  refine r_iadd X dX1_sizeOfPlain_16 ?_
  try subst hf
  exact r_ireturn X Y dX1_sizeOfPlain_17 rfl rfl
theorem Asks_sizeOfPlain_le {left : Nat → Int32} {ln : Nat} {num : Int32} {kd : Int32} {hi : Int32} {ho : Int32} (h : ln ≤ 16) : (f_Asks_sizeOfPlain left ln num kd hi ho).2.2 ≤ 16 := by
  unfold f_Asks_sizeOfPlain
  (repeat' split) <;> dsimp only <;> (first | (repeat (first | assumption | apply Asks_leave_le | apply Asks_sizeLent_le | apply Asks_markLent_le | apply Asks_markOfPlain_le | apply Asks_markOfPlains_le)) | omega)

def f_Asks_sizeOfWater (left : Nat → Int32) (ln : Nat) (hi : Int32) : Int32 × (Nat → Int32) × Nat := ((fun q1 => ((fun q2 => (q2.1 - (100 : Int32), q2.2.1, q2.2.2)) (f_Asks_sizeLent q1.1 q1.2 hi))) (f_Asks_leave left ln (13 : Int32)))
set_option maxRecDepth 20000 in
set_option maxHeartbeats 4000000 in
theorem c_Asks_sizeOfWater {G : mG} {h : mHp} {a : Nat} {left : Nat → Int32} {ln : Nat} {num : Int32} {kd : Int32} {hi : Int32} {ho : Int32}   (hl : ln ≤ 16) : Ret G 2 mX1_sizeOfWater [.ref a] (ov h a (askL a left ln num kd hi ho)) (some (.int (f_Asks_sizeOfWater left ln hi).1)) (ov h a (askL a (f_Asks_sizeOfWater left ln hi).2.1 (f_Asks_sizeOfWater left ln hi).2.2 num kd hi ho)) := by
  generalize hf : f_Asks_sizeOfWater left ln hi = R
  unfold f_Asks_sizeOfWater at hf
  refine Ret.of [(0, .ref a)] (by decide) (Nat.le_of_ble_eq_true rfl) rfl ?_
  rintro Z rfl X Y
  have hv_a : isV (ov h a (askL a left ln num kd hi ho)) a (askL a left ln num kd hi ho) := ov_isV
  refine r_aload_n X 0 dX1_sizeOfWater_0 rfl ?_
  refine r_bipush X (13 : Int32) dX1_sizeOfWater_1 (by decide) ?_
  refine cl_X1_48 X (by decide) dX1_sizeOfWater_3 (Nat.le_of_ble_eq_true rfl) (hv_a 0 _ rfl) (c_Asks_leave  (by assumption)) ?_
  obtain ⟨q1, eq1⟩ : ∃ q, q = f_Asks_leave left ln (13 : Int32) := ⟨_, rfl⟩
  rw [← eq1]
  rw [← eq1] at hf
  try dsimp only at hf
  have hl_q1 : q1.2 ≤ 16 := by rw [eq1]; exact Asks_leave_le (by assumption)
  have hv_a : isV (ov h a (askL a q1.1 q1.2 num kd hi ho)) a (askL a q1.1 q1.2 num kd hi ho) := ov_isV
  refine r_aload_n X 0 dX1_sizeOfWater_6 rfl ?_
  refine cl_X1_71 X (by decide) dX1_sizeOfWater_7 (Nat.le_of_ble_eq_true rfl) (hv_a 0 _ rfl) (c_Asks_sizeLent  (by assumption)) ?_
  obtain ⟨q2, eq2⟩ : ∃ q, q = f_Asks_sizeLent q1.1 q1.2 hi := ⟨_, rfl⟩
  rw [← eq2]
  rw [← eq2] at hf
  try dsimp only at hf
  have hl_q2 : q2.2.2 ≤ 16 := by rw [eq2]; exact Asks_sizeLent_le (by assumption)
  have hv_a : isV (ov h a (askL a q2.2.1 q2.2.2 num kd hi ho)) a (askL a q2.2.1 q2.2.2 num kd hi ho) := ov_isV
  refine r_bipush X (100 : Int32) dX1_sizeOfWater_10 (by decide) ?_
  refine r_isub X dX1_sizeOfWater_12 ?_
  try subst hf
  exact r_ireturn X Y dX1_sizeOfWater_13 rfl rfl
theorem Asks_sizeOfWater_le {left : Nat → Int32} {ln : Nat} {hi : Int32} (h : ln ≤ 16) : (f_Asks_sizeOfWater left ln hi).2.2 ≤ 16 := by
  unfold f_Asks_sizeOfWater
  (repeat' split) <;> dsimp only <;> (first | (repeat (first | assumption | apply Asks_leave_le | apply Asks_sizeLent_le | apply Asks_markLent_le | apply Asks_markOfPlain_le | apply Asks_markOfPlains_le | apply Asks_sizeOfPlain_le)) | omega)

def f_Asks_sizeOfWaters (left : Nat → Int32) (ln : Nat) (kd : Int32) (hi : Int32) : Int32 × (Nat → Int32) × Nat := (if kd = (5 : Int32) then ((fun q2 => ((fun q3 => ((2 : Int32) * q3.1, q3.2.1, q3.2.2)) (f_Asks_sizeOfWater q2.1 q2.2 hi))) (f_Asks_leave left ln (14 : Int32))) else ((fun q1 => (q1.1, q1.2.1, q1.2.2)) (f_Asks_sizeOfWater left ln hi)))
set_option maxRecDepth 20000 in
set_option maxHeartbeats 4000000 in
theorem c_Asks_sizeOfWaters {G : mG} {h : mHp} {a : Nat} {left : Nat → Int32} {ln : Nat} {num : Int32} {kd : Int32} {hi : Int32} {ho : Int32}   (hl : ln ≤ 16) : Ret G 3 mX1_sizeOfWaters [.ref a] (ov h a (askL a left ln num kd hi ho)) (some (.int (f_Asks_sizeOfWaters left ln kd hi).1)) (ov h a (askL a (f_Asks_sizeOfWaters left ln kd hi).2.1 (f_Asks_sizeOfWaters left ln kd hi).2.2 num kd hi ho)) := by
  generalize hf : f_Asks_sizeOfWaters left ln kd hi = R
  unfold f_Asks_sizeOfWaters at hf
  refine Ret.of [(0, .ref a)] (by decide) (Nat.le_of_ble_eq_true rfl) rfl ?_
  rintro Z rfl X Y
  have hv_a : isV (ov h a (askL a left ln num kd hi ho)) a (askL a left ln num kd hi ho) := ov_isV
  refine r_aload_n X 0 dX1_sizeOfWaters_0 rfl ?_
  refine gf_X1_27 X dX1_sizeOfWaters_1 (hv_a 0 _ rfl) rfl ?_
  refine r_iconst X (5 : Int32) dX1_sizeOfWaters_4 (by decide) ?_
  refine r_icmp_ne X 21 dX1_sizeOfWaters_5 rfl (fun c1 => ?_) (fun c1 => ?_)
  · rw [if_neg c1] at hf
    refine r_aload_n X 0 dX1_sizeOfWaters_21 rfl ?_
    refine cl_X1_65 X (by decide) dX1_sizeOfWaters_22 (Nat.le_of_ble_eq_true rfl) (hv_a 0 _ rfl) (c_Asks_sizeOfWater  (by assumption)) ?_
    obtain ⟨q1, eq1⟩ : ∃ q, q = f_Asks_sizeOfWater left ln hi := ⟨_, rfl⟩
    rw [← eq1]
    rw [← eq1] at hf
    try dsimp only at hf
    have hl_q1 : q1.2.2 ≤ 16 := by rw [eq1]; exact Asks_sizeOfWater_le (by assumption)
    have hv_a : isV (ov h a (askL a q1.2.1 q1.2.2 num kd hi ho)) a (askL a q1.2.1 q1.2.2 num kd hi ho) := ov_isV
    try subst hf
    exact r_ireturn X Y dX1_sizeOfWaters_25 rfl rfl
  · rw [if_pos c1] at hf
    refine r_aload_n X 0 dX1_sizeOfWaters_8 rfl ?_
    refine r_bipush X (14 : Int32) dX1_sizeOfWaters_9 (by decide) ?_
    refine cl_X1_48 X (by decide) dX1_sizeOfWaters_11 (Nat.le_of_ble_eq_true rfl) (hv_a 0 _ rfl) (c_Asks_leave  (by assumption)) ?_
    obtain ⟨q2, eq2⟩ : ∃ q, q = f_Asks_leave left ln (14 : Int32) := ⟨_, rfl⟩
    rw [← eq2]
    rw [← eq2] at hf
    try dsimp only at hf
    have hl_q2 : q2.2 ≤ 16 := by rw [eq2]; exact Asks_leave_le (by assumption)
    have hv_a : isV (ov h a (askL a q2.1 q2.2 num kd hi ho)) a (askL a q2.1 q2.2 num kd hi ho) := ov_isV
    refine r_iconst X (2 : Int32) dX1_sizeOfWaters_14 (by decide) ?_
    refine r_aload_n X 0 dX1_sizeOfWaters_15 rfl ?_
    refine cl_X1_65 X (by decide) dX1_sizeOfWaters_16 (Nat.le_of_ble_eq_true rfl) (hv_a 0 _ rfl) (c_Asks_sizeOfWater  (by assumption)) ?_
    obtain ⟨q3, eq3⟩ : ∃ q, q = f_Asks_sizeOfWater q2.1 q2.2 hi := ⟨_, rfl⟩
    rw [← eq3]
    rw [← eq3] at hf
    try dsimp only at hf
    have hl_q3 : q3.2.2 ≤ 16 := by rw [eq3]; exact Asks_sizeOfWater_le (by assumption)
    have hv_a : isV (ov h a (askL a q3.2.1 q3.2.2 num kd hi ho)) a (askL a q3.2.1 q3.2.2 num kd hi ho) := ov_isV
    refine r_imul X dX1_sizeOfWaters_19 ?_
    try subst hf
    exact r_ireturn X Y dX1_sizeOfWaters_20 rfl rfl
theorem Asks_sizeOfWaters_le {left : Nat → Int32} {ln : Nat} {kd : Int32} {hi : Int32} (h : ln ≤ 16) : (f_Asks_sizeOfWaters left ln kd hi).2.2 ≤ 16 := by
  unfold f_Asks_sizeOfWaters
  (repeat' split) <;> dsimp only <;> (first | (repeat (first | assumption | apply Asks_leave_le | apply Asks_sizeLent_le | apply Asks_markLent_le | apply Asks_markOfPlain_le | apply Asks_markOfPlains_le | apply Asks_sizeOfPlain_le | apply Asks_sizeOfWater_le)) | omega)

def f_Asks_markOfWater (left : Nat → Int32) (ln : Nat) (num : Int32) (kd : Int32) (hi : Int32) : Int32 × (Nat → Int32) × Nat := ((fun q1 => ((fun q2 => ((fun q3 => (q2.1 - q3.1, q3.2.1, q3.2.2)) (f_Asks_sizeOfWaters q2.2.1 q2.2.2 kd hi))) (f_Asks_markLent q1.1 q1.2 num))) (f_Asks_leave left ln (23 : Int32)))
set_option maxRecDepth 20000 in
set_option maxHeartbeats 4000000 in
theorem c_Asks_markOfWater {G : mG} {h : mHp} {a : Nat} {left : Nat → Int32} {ln : Nat} {num : Int32} {kd : Int32} {hi : Int32} {ho : Int32}   (hl : ln ≤ 16) : Ret G 4 mX1_markOfWater [.ref a] (ov h a (askL a left ln num kd hi ho)) (some (.int (f_Asks_markOfWater left ln num kd hi).1)) (ov h a (askL a (f_Asks_markOfWater left ln num kd hi).2.1 (f_Asks_markOfWater left ln num kd hi).2.2 num kd hi ho)) := by
  generalize hf : f_Asks_markOfWater left ln num kd hi = R
  unfold f_Asks_markOfWater at hf
  refine Ret.of [(0, .ref a)] (by decide) (Nat.le_of_ble_eq_true rfl) rfl ?_
  rintro Z rfl X Y
  have hv_a : isV (ov h a (askL a left ln num kd hi ho)) a (askL a left ln num kd hi ho) := ov_isV
  refine r_aload_n X 0 dX1_markOfWater_0 rfl ?_
  refine r_bipush X (23 : Int32) dX1_markOfWater_1 (by decide) ?_
  refine cl_X1_48 X (by decide) dX1_markOfWater_3 (Nat.le_of_ble_eq_true rfl) (hv_a 0 _ rfl) (c_Asks_leave  (by assumption)) ?_
  obtain ⟨q1, eq1⟩ : ∃ q, q = f_Asks_leave left ln (23 : Int32) := ⟨_, rfl⟩
  rw [← eq1]
  rw [← eq1] at hf
  try dsimp only at hf
  have hl_q1 : q1.2 ≤ 16 := by rw [eq1]; exact Asks_leave_le (by assumption)
  have hv_a : isV (ov h a (askL a q1.1 q1.2 num kd hi ho)) a (askL a q1.1 q1.2 num kd hi ho) := ov_isV
  refine r_aload_n X 0 dX1_markOfWater_6 rfl ?_
  refine cl_X1_74 X (by decide) dX1_markOfWater_7 (Nat.le_of_ble_eq_true rfl) (hv_a 0 _ rfl) (c_Asks_markLent  (by assumption)) ?_
  obtain ⟨q2, eq2⟩ : ∃ q, q = f_Asks_markLent q1.1 q1.2 num := ⟨_, rfl⟩
  rw [← eq2]
  rw [← eq2] at hf
  try dsimp only at hf
  have hl_q2 : q2.2.2 ≤ 16 := by rw [eq2]; exact Asks_markLent_le (by assumption)
  have hv_a : isV (ov h a (askL a q2.2.1 q2.2.2 num kd hi ho)) a (askL a q2.2.1 q2.2.2 num kd hi ho) := ov_isV
  refine r_istore_n [(0, .ref a), (1, .int q2.1)] X dX1_markOfWater_10 rfl (by decide) rfl ?_
  refine r_iload_n X 1 dX1_markOfWater_11 rfl ?_
  refine r_aload_n X 0 dX1_markOfWater_12 rfl ?_
  refine cl_X1_56 X (by decide) dX1_markOfWater_13 (Nat.le_of_ble_eq_true rfl) (hv_a 0 _ rfl) (c_Asks_sizeOfWaters  (by assumption)) ?_
  obtain ⟨q3, eq3⟩ : ∃ q, q = f_Asks_sizeOfWaters q2.2.1 q2.2.2 kd hi := ⟨_, rfl⟩
  rw [← eq3]
  rw [← eq3] at hf
  try dsimp only at hf
  have hl_q3 : q3.2.2 ≤ 16 := by rw [eq3]; exact Asks_sizeOfWaters_le (by assumption)
  have hv_a : isV (ov h a (askL a q3.2.1 q3.2.2 num kd hi ho)) a (askL a q3.2.1 q3.2.2 num kd hi ho) := ov_isV
  refine r_isub X dX1_markOfWater_16 ?_
  try subst hf
  exact r_ireturn X Y dX1_markOfWater_17 rfl rfl
theorem Asks_markOfWater_le {left : Nat → Int32} {ln : Nat} {num : Int32} {kd : Int32} {hi : Int32} (h : ln ≤ 16) : (f_Asks_markOfWater left ln num kd hi).2.2 ≤ 16 := by
  unfold f_Asks_markOfWater
  (repeat' split) <;> dsimp only <;> (first | (repeat (first | assumption | apply Asks_leave_le | apply Asks_sizeLent_le | apply Asks_markLent_le | apply Asks_markOfPlain_le | apply Asks_markOfPlains_le | apply Asks_sizeOfPlain_le | apply Asks_sizeOfWater_le | apply Asks_sizeOfWaters_le)) | omega)

def f_Asks_sizeOf (left : Nat → Int32) (ln : Nat) (num : Int32) (kd : Int32) (hi : Int32) (ho : Int32) : Int32 × (Nat → Int32) × Nat := (if kd = (2 : Int32) then ((fun q1 => ((fun q2 => (-q2.1, q2.2.1, q2.2.2)) (f_Asks_sizeOfPlain q1.1 q1.2 num kd hi ho))) (f_Asks_leave left ln (12 : Int32))) else (if kd = (3 : Int32) then ((fun q3 => (q3.1, q3.2.1, q3.2.2)) (f_Asks_sizeOfPlain left ln num kd hi ho)) else (if kd = (4 : Int32) then ((fun q4 => (q4.1, q4.2.1, q4.2.2)) (f_Asks_sizeOfWaters left ln kd hi)) else (if kd = (5 : Int32) then ((fun q5 => (q5.1, q5.2.1, q5.2.2)) (f_Asks_sizeOfWaters left ln kd hi)) else ((fun q6 => (q6.1, q6.2.1, q6.2.2)) (f_Asks_sizeOfPlain left ln num kd hi ho))))))
set_option maxRecDepth 20000 in
set_option maxHeartbeats 4000000 in
theorem c_Asks_sizeOf {G : mG} {h : mHp} {a : Nat} {left : Nat → Int32} {ln : Nat} {num : Int32} {kd : Int32} {hi : Int32} {ho : Int32}   (hl : ln ≤ 16) : Ret G 5 mX1_sizeOf [.ref a] (ov h a (askL a left ln num kd hi ho)) (some (.int (f_Asks_sizeOf left ln num kd hi ho).1)) (ov h a (askL a (f_Asks_sizeOf left ln num kd hi ho).2.1 (f_Asks_sizeOf left ln num kd hi ho).2.2 num kd hi ho)) := by
  generalize hf : f_Asks_sizeOf left ln num kd hi ho = R
  unfold f_Asks_sizeOf at hf
  refine Ret.of [(0, .ref a)] (by decide) (Nat.le_of_ble_eq_true rfl) rfl ?_
  rintro Z rfl X Y
  have hv_a : isV (ov h a (askL a left ln num kd hi ho)) a (askL a left ln num kd hi ho) := ov_isV
  refine r_aload_n X 0 dX1_sizeOf_0 rfl ?_
  refine gf_X1_27 X dX1_sizeOf_1 (hv_a 0 _ rfl) rfl ?_
  by_cases c1 : kd = (2 : Int32)
  · rw [if_pos c1] at hf
    refine r_tsin X 36 dX1_sizeOf_4 (by rw [c1]; decide) (by rw [c1]; decide) (by rw [c1]; rfl) rfl ?_
    refine r_aload_n X 0 dX1_sizeOf_36 rfl ?_
    refine r_bipush X (12 : Int32) dX1_sizeOf_37 (by decide) ?_
    refine cl_X1_48 X (by decide) dX1_sizeOf_39 (Nat.le_of_ble_eq_true rfl) (hv_a 0 _ rfl) (c_Asks_leave  (by assumption)) ?_
    obtain ⟨q1, eq1⟩ : ∃ q, q = f_Asks_leave left ln (12 : Int32) := ⟨_, rfl⟩
    rw [← eq1]
    rw [← eq1] at hf
    try dsimp only at hf
    have hl_q1 : q1.2 ≤ 16 := by rw [eq1]; exact Asks_leave_le (by assumption)
    have hv_a : isV (ov h a (askL a q1.1 q1.2 num kd hi ho)) a (askL a q1.1 q1.2 num kd hi ho) := ov_isV
    refine r_aload_n X 0 dX1_sizeOf_42 rfl ?_
    refine cl_X1_52 X (by decide) dX1_sizeOf_43 (Nat.le_of_ble_eq_true rfl) (hv_a 0 _ rfl) (c_Asks_sizeOfPlain  (by assumption)) ?_
    obtain ⟨q2, eq2⟩ : ∃ q, q = f_Asks_sizeOfPlain q1.1 q1.2 num kd hi ho := ⟨_, rfl⟩
    rw [← eq2]
    rw [← eq2] at hf
    try dsimp only at hf
    have hl_q2 : q2.2.2 ≤ 16 := by rw [eq2]; exact Asks_sizeOfPlain_le (by assumption)
    have hv_a : isV (ov h a (askL a q2.2.1 q2.2.2 num kd hi ho)) a (askL a q2.2.1 q2.2.2 num kd hi ho) := ov_isV
    refine r_ineg X dX1_sizeOf_46 ?_
    try subst hf
    exact r_ireturn X Y dX1_sizeOf_47 rfl rfl
  · rw [if_neg c1] at hf
    by_cases c2 : kd = (3 : Int32)
    · rw [if_pos c2] at hf
      refine r_tsin X 53 dX1_sizeOf_4 (by rw [c2]; decide) (by rw [c2]; decide) (by rw [c2]; rfl) rfl ?_
      refine r_aload_n X 0 dX1_sizeOf_53 rfl ?_
      refine cl_X1_52 X (by decide) dX1_sizeOf_54 (Nat.le_of_ble_eq_true rfl) (hv_a 0 _ rfl) (c_Asks_sizeOfPlain  (by assumption)) ?_
      obtain ⟨q3, eq3⟩ : ∃ q, q = f_Asks_sizeOfPlain left ln num kd hi ho := ⟨_, rfl⟩
      rw [← eq3]
      rw [← eq3] at hf
      try dsimp only at hf
      have hl_q3 : q3.2.2 ≤ 16 := by rw [eq3]; exact Asks_sizeOfPlain_le (by assumption)
      have hv_a : isV (ov h a (askL a q3.2.1 q3.2.2 num kd hi ho)) a (askL a q3.2.1 q3.2.2 num kd hi ho) := ov_isV
      try subst hf
      exact r_ireturn X Y dX1_sizeOf_57 rfl rfl
    · rw [if_neg c2] at hf
      by_cases c3 : kd = (4 : Int32)
      · rw [if_pos c3] at hf
        refine r_tsin X 48 dX1_sizeOf_4 (by rw [c3]; decide) (by rw [c3]; decide) (by rw [c3]; rfl) rfl ?_
        refine r_aload_n X 0 dX1_sizeOf_48 rfl ?_
        refine cl_X1_56 X (by decide) dX1_sizeOf_49 (Nat.le_of_ble_eq_true rfl) (hv_a 0 _ rfl) (c_Asks_sizeOfWaters  (by assumption)) ?_
        obtain ⟨q4, eq4⟩ : ∃ q, q = f_Asks_sizeOfWaters left ln kd hi := ⟨_, rfl⟩
        rw [← eq4]
        rw [← eq4] at hf
        try dsimp only at hf
        have hl_q4 : q4.2.2 ≤ 16 := by rw [eq4]; exact Asks_sizeOfWaters_le (by assumption)
        have hv_a : isV (ov h a (askL a q4.2.1 q4.2.2 num kd hi ho)) a (askL a q4.2.1 q4.2.2 num kd hi ho) := ov_isV
        try subst hf
        exact r_ireturn X Y dX1_sizeOf_52 rfl rfl
      · rw [if_neg c3] at hf
        by_cases c4 : kd = (5 : Int32)
        · rw [if_pos c4] at hf
          refine r_tsin X 48 dX1_sizeOf_4 (by rw [c4]; decide) (by rw [c4]; decide) (by rw [c4]; rfl) rfl ?_
          refine r_aload_n X 0 dX1_sizeOf_48 rfl ?_
          refine cl_X1_56 X (by decide) dX1_sizeOf_49 (Nat.le_of_ble_eq_true rfl) (hv_a 0 _ rfl) (c_Asks_sizeOfWaters  (by assumption)) ?_
          obtain ⟨q5, eq5⟩ : ∃ q, q = f_Asks_sizeOfWaters left ln kd hi := ⟨_, rfl⟩
          rw [← eq5]
          rw [← eq5] at hf
          try dsimp only at hf
          have hl_q5 : q5.2.2 ≤ 16 := by rw [eq5]; exact Asks_sizeOfWaters_le (by assumption)
          have hv_a : isV (ov h a (askL a q5.2.1 q5.2.2 num kd hi ho)) a (askL a q5.2.1 q5.2.2 num kd hi ho) := ov_isV
          try subst hf
          exact r_ireturn X Y dX1_sizeOf_52 rfl rfl
        · rw [if_neg c4] at hf
          refine r_tsout X 53 dX1_sizeOf_4 (by have a0 : ¬ kd.toInt = 2 := i32_ne c1; have a1 : ¬ kd.toInt = 3 := i32_ne c2; have a2 : ¬ kd.toInt = 4 := i32_ne c3; have a3 : ¬ kd.toInt = 5 := i32_ne c4; omega) rfl ?_
          refine r_aload_n X 0 dX1_sizeOf_53 rfl ?_
          refine cl_X1_52 X (by decide) dX1_sizeOf_54 (Nat.le_of_ble_eq_true rfl) (hv_a 0 _ rfl) (c_Asks_sizeOfPlain  (by assumption)) ?_
          obtain ⟨q6, eq6⟩ : ∃ q, q = f_Asks_sizeOfPlain left ln num kd hi ho := ⟨_, rfl⟩
          rw [← eq6]
          rw [← eq6] at hf
          try dsimp only at hf
          have hl_q6 : q6.2.2 ≤ 16 := by rw [eq6]; exact Asks_sizeOfPlain_le (by assumption)
          have hv_a : isV (ov h a (askL a q6.2.1 q6.2.2 num kd hi ho)) a (askL a q6.2.1 q6.2.2 num kd hi ho) := ov_isV
          try subst hf
          exact r_ireturn X Y dX1_sizeOf_57 rfl rfl
theorem Asks_sizeOf_le {left : Nat → Int32} {ln : Nat} {num : Int32} {kd : Int32} {hi : Int32} {ho : Int32} (h : ln ≤ 16) : (f_Asks_sizeOf left ln num kd hi ho).2.2 ≤ 16 := by
  unfold f_Asks_sizeOf
  (repeat' split) <;> dsimp only <;> (first | (repeat (first | assumption | apply Asks_leave_le | apply Asks_sizeLent_le | apply Asks_markLent_le | apply Asks_markOfPlain_le | apply Asks_markOfPlains_le | apply Asks_sizeOfPlain_le | apply Asks_sizeOfWater_le | apply Asks_sizeOfWaters_le | apply Asks_markOfWater_le)) | omega)

def f_Asks_markOf (left : Nat → Int32) (ln : Nat) (num : Int32) (kd : Int32) (hi : Int32) (ho : Int32) : Int32 × (Nat → Int32) × Nat := (if kd = (4 : Int32) then ((fun q1 => q1.1) (f_Asks_markOfWater left ln num kd hi)) else if kd = (5 : Int32) then ((fun q3 => q3.1) (f_Asks_markOfWater left ln num kd hi)) else ((fun q2 => q2.1) (f_Asks_markOfPlains left ln num kd ho)), (if kd = (4 : Int32) then ((fun q1 => q1.2.1) (f_Asks_markOfWater left ln num kd hi)) else (if kd = (5 : Int32) then ((fun q3 => q3.2.1) (f_Asks_markOfWater left ln num kd hi)) else ((fun q2 => q2.2.1) (f_Asks_markOfPlains left ln num kd ho)))), (if kd = (4 : Int32) then ((fun q1 => q1.2.2) (f_Asks_markOfWater left ln num kd hi)) else (if kd = (5 : Int32) then ((fun q3 => q3.2.2) (f_Asks_markOfWater left ln num kd hi)) else ((fun q2 => q2.2.2) (f_Asks_markOfPlains left ln num kd ho)))))
set_option maxRecDepth 20000 in
set_option maxHeartbeats 4000000 in
theorem c_Asks_markOf {G : mG} {h : mHp} {a : Nat} {left : Nat → Int32} {ln : Nat} {num : Int32} {kd : Int32} {hi : Int32} {ho : Int32}   (hl : ln ≤ 16) : Ret G 5 mX1_markOf [.ref a] (ov h a (askL a left ln num kd hi ho)) (some (.int (f_Asks_markOf left ln num kd hi ho).1)) (ov h a (askL a (f_Asks_markOf left ln num kd hi ho).2.1 (f_Asks_markOf left ln num kd hi ho).2.2 num kd hi ho)) := by
  generalize hf : f_Asks_markOf left ln num kd hi ho = R
  unfold f_Asks_markOf at hf
  refine Ret.of [(0, .ref a)] (by decide) (Nat.le_of_ble_eq_true rfl) rfl ?_
  rintro Z rfl X Y
  have hv_a : isV (ov h a (askL a left ln num kd hi ho)) a (askL a left ln num kd hi ho) := ov_isV
  refine r_aload_n X 0 dX1_markOf_0 rfl ?_
  refine gf_X1_27 X dX1_markOf_1 (hv_a 0 _ rfl) rfl ?_
  refine r_iconst X (4 : Int32) dX1_markOf_4 (by decide) ?_
  refine m_join (P := SW Z 27 [] [.int (if kd = (4 : Int32) then ((fun q1 => q1.1) (f_Asks_markOfWater left ln num kd hi)) else if kd = (5 : Int32) then ((fun q3 => q3.1) (f_Asks_markOfWater left ln num kd hi)) else ((fun q2 => q2.1) (f_Asks_markOfPlains left ln num kd ho)))] (ov h a (askL a (if kd = (4 : Int32) then ((fun q1 => q1.2.1) (f_Asks_markOfWater left ln num kd hi)) else (if kd = (5 : Int32) then ((fun q3 => q3.2.1) (f_Asks_markOfWater left ln num kd hi)) else ((fun q2 => q2.2.1) (f_Asks_markOfPlains left ln num kd ho)))) (if kd = (4 : Int32) then ((fun q1 => q1.2.2) (f_Asks_markOfWater left ln num kd hi)) else (if kd = (5 : Int32) then ((fun q3 => q3.2.2) (f_Asks_markOfWater left ln num kd hi)) else ((fun q2 => q2.2.2) (f_Asks_markOfPlains left ln num kd ho)))) num kd hi ho))) (fun K => ?_) ?_
  · refine r_icmp_eq X 16 dX1_markOf_5 rfl (fun c1 => ?_) (fun c1 => ?_)
    · skip
      refine r_aload_n X 0 dX1_markOf_16 rfl ?_
      refine cl_X1_59 X (by decide) dX1_markOf_17 (Nat.le_of_ble_eq_true rfl) (hv_a 0 _ rfl) (c_Asks_markOfWater  (by assumption)) ?_
      obtain ⟨q1, eq1⟩ : ∃ q, q = f_Asks_markOfWater left ln num kd hi := ⟨_, rfl⟩
      rw [← eq1]
      have hl_q1 : q1.2.2 ≤ 16 := by rw [eq1]; exact Asks_markOfWater_le (by assumption)
      have hv_a : isV (ov h a (askL a q1.2.1 q1.2.2 num kd hi ho)) a (askL a q1.2.1 q1.2.2 num kd hi ho) := ov_isV
      refine r_goto X 27 dX1_markOf_20 rfl ?_
      subst eq1
      refine SW.pick [] [] rfl ?_
      try simp only [if_pos c1] at K ⊢
      exact K
    · skip
      refine r_aload_n X 0 dX1_markOf_8 rfl ?_
      refine gf_X1_27 X dX1_markOf_9 (hv_a 0 _ rfl) rfl ?_
      refine r_iconst X (5 : Int32) dX1_markOf_12 (by decide) ?_
      refine m_join (P := SW Z 27 [] [.int (if kd = (5 : Int32) then ((fun q3 => q3.1) (f_Asks_markOfWater left ln num kd hi)) else ((fun q2 => q2.1) (f_Asks_markOfPlains left ln num kd ho)))] (ov h a (askL a (if kd = (5 : Int32) then ((fun q3 => q3.2.1) (f_Asks_markOfWater left ln num kd hi)) else ((fun q2 => q2.2.1) (f_Asks_markOfPlains left ln num kd ho))) (if kd = (5 : Int32) then ((fun q3 => q3.2.2) (f_Asks_markOfWater left ln num kd hi)) else ((fun q2 => q2.2.2) (f_Asks_markOfPlains left ln num kd ho))) num kd hi ho))) (fun K => ?_) ?_
      · refine r_icmp_ne X 23 dX1_markOf_13 rfl (fun c2 => ?_) (fun c2 => ?_)
        · skip
          refine r_aload_n X 0 dX1_markOf_23 rfl ?_
          refine cl_X1_62 X (by decide) dX1_markOf_24 (Nat.le_of_ble_eq_true rfl) (hv_a 0 _ rfl) (c_Asks_markOfPlains  (by assumption)) ?_
          obtain ⟨q2, eq2⟩ : ∃ q, q = f_Asks_markOfPlains left ln num kd ho := ⟨_, rfl⟩
          rw [← eq2]
          have hl_q2 : q2.2.2 ≤ 16 := by rw [eq2]; exact Asks_markOfPlains_le (by assumption)
          have hv_a : isV (ov h a (askL a q2.2.1 q2.2.2 num kd hi ho)) a (askL a q2.2.1 q2.2.2 num kd hi ho) := ov_isV
          subst eq2
          refine SW.pick [] [] rfl ?_
          try simp only [if_neg c2] at K ⊢
          exact K
        · skip
          refine r_aload_n X 0 dX1_markOf_16 rfl ?_
          refine cl_X1_59 X (by decide) dX1_markOf_17 (Nat.le_of_ble_eq_true rfl) (hv_a 0 _ rfl) (c_Asks_markOfWater  (by assumption)) ?_
          obtain ⟨q3, eq3⟩ : ∃ q, q = f_Asks_markOfWater left ln num kd hi := ⟨_, rfl⟩
          rw [← eq3]
          have hl_q3 : q3.2.2 ≤ 16 := by rw [eq3]; exact Asks_markOfWater_le (by assumption)
          have hv_a : isV (ov h a (askL a q3.2.1 q3.2.2 num kd hi ho)) a (askL a q3.2.1 q3.2.2 num kd hi ho) := ov_isV
          refine r_goto X 27 dX1_markOf_20 rfl ?_
          subst eq3
          refine SW.pick [] [] rfl ?_
          try simp only [if_pos c2] at K ⊢
          exact K
      have hv_a : isV (ov h a (askL a (if kd = (5 : Int32) then ((fun q3 => q3.2.1) (f_Asks_markOfWater left ln num kd hi)) else ((fun q2 => q2.2.1) (f_Asks_markOfPlains left ln num kd ho))) (if kd = (5 : Int32) then ((fun q3 => q3.2.2) (f_Asks_markOfWater left ln num kd hi)) else ((fun q2 => q2.2.2) (f_Asks_markOfPlains left ln num kd ho))) num kd hi ho)) a (askL a (if kd = (5 : Int32) then ((fun q3 => q3.2.1) (f_Asks_markOfWater left ln num kd hi)) else ((fun q2 => q2.2.1) (f_Asks_markOfPlains left ln num kd ho))) (if kd = (5 : Int32) then ((fun q3 => q3.2.2) (f_Asks_markOfWater left ln num kd hi)) else ((fun q2 => q2.2.2) (f_Asks_markOfPlains left ln num kd ho))) num kd hi ho) := ov_isV
      try simp only [if_neg c1] at K ⊢
      exact K
  have hv_a : isV (ov h a (askL a (if kd = (4 : Int32) then ((fun q1 => q1.2.1) (f_Asks_markOfWater left ln num kd hi)) else (if kd = (5 : Int32) then ((fun q3 => q3.2.1) (f_Asks_markOfWater left ln num kd hi)) else ((fun q2 => q2.2.1) (f_Asks_markOfPlains left ln num kd ho)))) (if kd = (4 : Int32) then ((fun q1 => q1.2.2) (f_Asks_markOfWater left ln num kd hi)) else (if kd = (5 : Int32) then ((fun q3 => q3.2.2) (f_Asks_markOfWater left ln num kd hi)) else ((fun q2 => q2.2.2) (f_Asks_markOfPlains left ln num kd ho)))) num kd hi ho)) a (askL a (if kd = (4 : Int32) then ((fun q1 => q1.2.1) (f_Asks_markOfWater left ln num kd hi)) else (if kd = (5 : Int32) then ((fun q3 => q3.2.1) (f_Asks_markOfWater left ln num kd hi)) else ((fun q2 => q2.2.1) (f_Asks_markOfPlains left ln num kd ho)))) (if kd = (4 : Int32) then ((fun q1 => q1.2.2) (f_Asks_markOfWater left ln num kd hi)) else (if kd = (5 : Int32) then ((fun q3 => q3.2.2) (f_Asks_markOfWater left ln num kd hi)) else ((fun q2 => q2.2.2) (f_Asks_markOfPlains left ln num kd ho)))) num kd hi ho) := ov_isV
  try subst hf
  exact r_ireturn X Y dX1_markOf_27 rfl rfl
theorem Asks_markOf_le {left : Nat → Int32} {ln : Nat} {num : Int32} {kd : Int32} {hi : Int32} {ho : Int32} (h : ln ≤ 16) : (f_Asks_markOf left ln num kd hi ho).2.2 ≤ 16 := by
  unfold f_Asks_markOf
  (repeat' split) <;> dsimp only <;> (first | (repeat (first | assumption | apply Asks_leave_le | apply Asks_sizeLent_le | apply Asks_markLent_le | apply Asks_markOfPlain_le | apply Asks_markOfPlains_le | apply Asks_sizeOfPlain_le | apply Asks_sizeOfWater_le | apply Asks_sizeOfWaters_le | apply Asks_markOfWater_le | apply Asks_sizeOf_le)) | omega)

def f_Asks_begin (kin : Nat → Int32) (hig : Nat → Int32) (onn : Nat → Int32) (u : Nat) : Nat × Int32 × Int32 × Int32 × Int32 := (0, nI u, kin u, hig u, (f_bitCount (onn u)))
set_option maxRecDepth 20000 in
set_option maxHeartbeats 4000000 in
theorem c_Asks_begin {G : mG} {h : mHp} {a : Nat} {d : Nat} {left : Nat → Int32} {ln : Nat} {num : Int32} {kd : Int32} {hi : Int32} {ho : Int32} {H : Nat} {U : Nat} {res : Int32} {dem : Nat → Int32} {kin : Nat → Int32} {low : Nat → Int32} {hig : Nat → Int32} {pri : Nat → Int32} {sta : Nat → Int32} {ups : Nat → Int32} {dow : Nat → Int32} {onn : Nat → Int32} {ord : Nat → Nat} {flo : Nat → Int32} {sro : Nat → Int32} {sco : Nat → Int32} {u : Nat} (hw_d : isV h d (dayL d H U res dem kin low hig pri sta ups dow onn ord flo sro sco)) (dj_d_a : d + 14 ≤ a ∨ a + 2 ≤ d) (hu : u < 4) : Ret G 1 mX1_begin [.ref a, .ref d, .int (nI u)] (ov h a (askL a left ln num kd hi ho)) none (ov h a (askL a left (f_Asks_begin kin hig onn u).1 (f_Asks_begin kin hig onn u).2.1 (f_Asks_begin kin hig onn u).2.2.1 (f_Asks_begin kin hig onn u).2.2.2.1 (f_Asks_begin kin hig onn u).2.2.2.2)) := by
  generalize hf : f_Asks_begin kin hig onn u = R
  unfold f_Asks_begin at hf
  refine Ret.of [(0, .ref a), (1, .ref d), (2, .int (nI u))] (by decide) (Nat.le_of_ble_eq_true rfl) rfl ?_
  rintro Z rfl X Y
  have hv_a : isV (ov h a (askL a left ln num kd hi ho)) a (askL a left ln num kd hi ho) := ov_isV
  have hv_d : isV (ov h a (askL a left ln num kd hi ho)) d (dayL d H U res dem kin low hig pri sta ups dow onn ord flo sro sco) := isV_ov dj_d_a (hw_d)
  refine r_aload_n X 0 dX1_begin_0 rfl ?_
  refine r_iconst X (0 : Int32) dX1_begin_1 (by decide) ?_
  refine pf_X1_15 X dX1_begin_2 (hv_a 0 _ rfl) (Nat.le_of_ble_eq_true rfl) ?_
  refine SW.heq (h2 := (ov h a (askL a left 0 num kd hi ho))) (ov_up 0 (Nat.le_of_ble_eq_true rfl) rfl) ?_
  have hv_a : isV (ov h a (askL a left 0 num kd hi ho)) a (askL a left 0 num kd hi ho) := ov_isV
  have hv_d : isV (ov h a (askL a left 0 num kd hi ho)) d (dayL d H U res dem kin low hig pri sta ups dow onn ord flo sro sco) := isV_ov dj_d_a (hw_d)
  refine r_aload_n X 0 dX1_begin_5 rfl ?_
  refine r_iload_n X 2 dX1_begin_6 rfl ?_
  refine pf_X1_19 X dX1_begin_7 (hv_a 0 _ rfl) (Nat.le_of_ble_eq_true rfl) ?_
  refine SW.heq (h2 := (ov h a (askL a left 0 (nI u) kd hi ho))) (ov_up 0 (Nat.le_of_ble_eq_true rfl) rfl) ?_
  have hv_a : isV (ov h a (askL a left 0 (nI u) kd hi ho)) a (askL a left 0 (nI u) kd hi ho) := ov_isV
  have hv_d : isV (ov h a (askL a left 0 (nI u) kd hi ho)) d (dayL d H U res dem kin low hig pri sta ups dow onn ord flo sro sco) := isV_ov dj_d_a (hw_d)
  refine r_aload_n X 0 dX1_begin_10 rfl ?_
  refine r_aload_n X 1 dX1_begin_11 rfl ?_
  refine gf_X1_22 X dX1_begin_12 (hv_d 0 _ rfl) rfl ?_
  refine r_iload_n X 2 dX1_begin_15 rfl ?_
  refine r_ialdn X (k0 := u) dX1_begin_16 (hv_d 2 _ rfl) (by omega) (by decide) ?_
  refine pf_X1_27 X dX1_begin_17 (hv_a 0 _ rfl) (Nat.le_of_ble_eq_true rfl) ?_
  refine SW.heq (h2 := (ov h a (askL a left 0 (nI u) (kin u) hi ho))) (ov_up 0 (Nat.le_of_ble_eq_true rfl) rfl) ?_
  have hv_a : isV (ov h a (askL a left 0 (nI u) (kin u) hi ho)) a (askL a left 0 (nI u) (kin u) hi ho) := ov_isV
  have hv_d : isV (ov h a (askL a left 0 (nI u) (kin u) hi ho)) d (dayL d H U res dem kin low hig pri sta ups dow onn ord flo sro sco) := isV_ov dj_d_a (hw_d)
  refine r_aload_n X 0 dX1_begin_20 rfl ?_
  refine r_aload_n X 1 dX1_begin_21 rfl ?_
  refine gf_X1_30 X dX1_begin_22 (hv_d 0 _ rfl) rfl ?_
  refine r_iload_n X 2 dX1_begin_25 rfl ?_
  refine r_ialdn X (k0 := u) dX1_begin_26 (hv_d 4 _ rfl) (by omega) (by decide) ?_
  refine pf_X1_33 X dX1_begin_27 (hv_a 0 _ rfl) (Nat.le_of_ble_eq_true rfl) ?_
  refine SW.heq (h2 := (ov h a (askL a left 0 (nI u) (kin u) (hig u) ho))) (ov_up 0 (Nat.le_of_ble_eq_true rfl) rfl) ?_
  have hv_a : isV (ov h a (askL a left 0 (nI u) (kin u) (hig u) ho)) a (askL a left 0 (nI u) (kin u) (hig u) ho) := ov_isV
  have hv_d : isV (ov h a (askL a left 0 (nI u) (kin u) (hig u) ho)) d (dayL d H U res dem kin low hig pri sta ups dow onn ord flo sro sco) := isV_ov dj_d_a (hw_d)
  refine r_aload_n X 0 dX1_begin_30 rfl ?_
  refine r_aload_n X 1 dX1_begin_31 rfl ?_
  refine gf_X1_36 X dX1_begin_32 (hv_d 0 _ rfl) rfl ?_
  refine r_iload_n X 2 dX1_begin_35 rfl ?_
  refine r_ialdn X (k0 := u) dX1_begin_36 (hv_d 9 _ rfl) (by omega) (by decide) ?_
  refine cl_X1_39 X (by decide) dX1_begin_37 (Nat.le_of_ble_eq_true rfl) (c_bitCount  ) ?_
  refine pf_X1_45 X dX1_begin_40 (hv_a 0 _ rfl) (Nat.le_of_ble_eq_true rfl) ?_
  refine SW.heq (h2 := (ov h a (askL a left 0 (nI u) (kin u) (hig u) (f_bitCount (onn u))))) (ov_up 0 (Nat.le_of_ble_eq_true rfl) rfl) ?_
  have hv_a : isV (ov h a (askL a left 0 (nI u) (kin u) (hig u) (f_bitCount (onn u)))) a (askL a left 0 (nI u) (kin u) (hig u) (f_bitCount (onn u))) := ov_isV
  have hv_d : isV (ov h a (askL a left 0 (nI u) (kin u) (hig u) (f_bitCount (onn u)))) d (dayL d H U res dem kin low hig pri sta ups dow onn ord flo sro sco) := isV_ov dj_d_a (hw_d)
  try subst hf
  exact r_return X Y dX1_begin_43 rfl rfl
