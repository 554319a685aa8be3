def seaL (sb : Nat) (con : Nat → Int32) (cst : Nat → Int32) (cpa : Nat → Int64) (car : Nat → Int64) (sc : Nat → Nat) (sz : Nat → Nat) (wt : Nat → Nat) (tof : Nat → Nat → Int32) (ton : Nat → Nat → Int32) (w3 : Nat → Nat → Int64) (pa : Nat) (pb : Nat) (ps : Nat) (su : Nat) (ss : Nat) (sk : Nat) : List mC := [.inr (5, [.ref (sb + 1), .ref (sb + 2), .ref (sb + 3), .ref (sb + 4), .ref (sb + 5), .ref (sb + 6), .ref (sb + 7), .ref (sb + 8), .ref (sb + 13), .ref (sb + (18 + pa)), .ref (sb + (18 + pb)), .ref (sb + (18 + ps)), .int (nI su), .int (nI ss), .int (nI sk)]), .inl (0, 81, .inl con), .inl (0, 81, .inl cst), .inl (1, 81, .inr (.inl cpa)), .inl (1, 81, .inr (.inl car)), .inl (0, 1296, .inl (fun j => nI (sc j))), .inl (0, 4, .inl (fun j => nI (sz j))), .inl (0, 4, .inl (fun j => nI (wt j))), .inl (4, 4, .inr (.inr (.inr (.inr (fun i => some (sb + (9 + i))))))), .inl (0, 6, .inl (tof 0)), .inl (0, 6, .inl (tof 1)), .inl (0, 6, .inl (tof 2)), .inl (0, 6, .inl (tof 3)), .inl (4, 4, .inr (.inr (.inr (.inr (fun i => some (sb + (14 + i))))))), .inl (0, 6, .inl (ton 0)), .inl (0, 6, .inl (ton 1)), .inl (0, 6, .inl (ton 2)), .inl (0, 6, .inl (ton 3)), .inl (1, 1296, .inr (.inl (w3 0))), .inl (1, 1296, .inr (.inl (w3 1))), .inl (1, 1296, .inr (.inl (w3 2)))]
theorem seaL_tof {sb : Nat} {con : Nat → Int32} {cst : Nat → Int32} {cpa : Nat → Int64} {car : Nat → Int64} {sc : Nat → Nat} {sz : Nat → Nat} {wt : Nat → Nat} {tof : Nat → Nat → Int32} {ton : Nat → Nat → Int32} {w3 : Nat → Nat → Int64} {pa : Nat} {pb : Nat} {ps : Nat} {su : Nat} {ss : Nat} {sk : Nat} {i : Nat} (hi : i < 4) : (seaL sb con cst cpa car sc sz wt tof ton w3 pa pb ps su ss sk)[9 + i]? = some (.inl (0, 6, .inl (tof i))) := by
  match i, hi with
  | 0, _ => rfl
  | 1, _ => rfl
  | 2, _ => rfl
  | 3, _ => rfl
theorem seaL_tofset {sb : Nat} {con : Nat → Int32} {cst : Nat → Int32} {cpa : Nat → Int64} {car : Nat → Int64} {sc : Nat → Nat} {sz : Nat → Nat} {wt : Nat → Nat} {tof : Nat → Nat → Int32} {ton : Nat → Nat → Int32} {w3 : Nat → Nat → Int64} {pa : Nat} {pb : Nat} {ps : Nat} {su : Nat} {ss : Nat} {sk : Nat} {i : Nat} {f : Nat → Int32} (hi : i < 4) : (seaL sb con cst cpa car sc sz wt tof ton w3 pa pb ps su ss sk).set (9 + i) (.inl (0, 6, .inl f)) = seaL sb con cst cpa car sc sz wt (va_up tof i f) ton w3 pa pb ps su ss sk := by
  match i, hi with
  | 0, _ => rfl
  | 1, _ => rfl
  | 2, _ => rfl
  | 3, _ => rfl
theorem seaL_ton {sb : Nat} {con : Nat → Int32} {cst : Nat → Int32} {cpa : Nat → Int64} {car : Nat → Int64} {sc : Nat → Nat} {sz : Nat → Nat} {wt : Nat → Nat} {tof : Nat → Nat → Int32} {ton : Nat → Nat → Int32} {w3 : Nat → Nat → Int64} {pa : Nat} {pb : Nat} {ps : Nat} {su : Nat} {ss : Nat} {sk : Nat} {i : Nat} (hi : i < 4) : (seaL sb con cst cpa car sc sz wt tof ton w3 pa pb ps su ss sk)[14 + i]? = some (.inl (0, 6, .inl (ton i))) := by
  match i, hi with
  | 0, _ => rfl
  | 1, _ => rfl
  | 2, _ => rfl
  | 3, _ => rfl
theorem seaL_tonset {sb : Nat} {con : Nat → Int32} {cst : Nat → Int32} {cpa : Nat → Int64} {car : Nat → Int64} {sc : Nat → Nat} {sz : Nat → Nat} {wt : Nat → Nat} {tof : Nat → Nat → Int32} {ton : Nat → Nat → Int32} {w3 : Nat → Nat → Int64} {pa : Nat} {pb : Nat} {ps : Nat} {su : Nat} {ss : Nat} {sk : Nat} {i : Nat} {f : Nat → Int32} (hi : i < 4) : (seaL sb con cst cpa car sc sz wt tof ton w3 pa pb ps su ss sk).set (14 + i) (.inl (0, 6, .inl f)) = seaL sb con cst cpa car sc sz wt tof (va_up ton i f) w3 pa pb ps su ss sk := by
  match i, hi with
  | 0, _ => rfl
  | 1, _ => rfl
  | 2, _ => rfl
  | 3, _ => rfl
theorem seaL_w3 {sb : Nat} {con : Nat → Int32} {cst : Nat → Int32} {cpa : Nat → Int64} {car : Nat → Int64} {sc : Nat → Nat} {sz : Nat → Nat} {wt : Nat → Nat} {tof : Nat → Nat → Int32} {ton : Nat → Nat → Int32} {w3 : Nat → Nat → Int64} {pa : Nat} {pb : Nat} {ps : Nat} {su : Nat} {ss : Nat} {sk : Nat} {i : Nat} (hi : i < 3) : (seaL sb con cst cpa car sc sz wt tof ton w3 pa pb ps su ss sk)[18 + i]? = some (.inl (1, 1296, .inr (.inl (w3 i)))) := by
  match i, hi with
  | 0, _ => rfl
  | 1, _ => rfl
  | 2, _ => rfl
theorem seaL_w3set {sb : Nat} {con : Nat → Int32} {cst : Nat → Int32} {cpa : Nat → Int64} {car : Nat → Int64} {sc : Nat → Nat} {sz : Nat → Nat} {wt : Nat → Nat} {tof : Nat → Nat → Int32} {ton : Nat → Nat → Int32} {w3 : Nat → Nat → Int64} {pa : Nat} {pb : Nat} {ps : Nat} {su : Nat} {ss : Nat} {sk : Nat} {i : Nat} {f : Nat → Int64} (hi : i < 3) : (seaL sb con cst cpa car sc sz wt tof ton w3 pa pb ps su ss sk).set (18 + i) (.inl (1, 1296, .inr (.inl f))) = seaL sb con cst cpa car sc sz wt tof ton (va_up w3 i f) pa pb ps su ss sk := by
  match i, hi with
  | 0, _ => rfl
  | 1, _ => rfl
  | 2, _ => rfl
theorem maxI_nI {a b : Nat} (ha : a < 2 ^ 31) (hb : b < 2 ^ 31) : f_Math_maxI (nI a) (nI b) = nI (max a b) := by
  unfold f_Math_maxI
  by_cases h : a < b
  · rw [if_pos (nI_lt h hb), Nat.max_eq_right (by omega)]
  · rw [if_neg (nI_nlt (by omega) ha), Nat.max_eq_left (by omega)]
theorem i32_dec (x : Int32) : x + Int32.ofInt (-1) = x - 1 := by
  rw [Int32.sub_eq_add_neg]
  rfl
theorem down_pos {y : Nat} (hy : y < 2 ^ 31) (h : ¬ nI y - (1 : Int32) < 0) : 0 < y := by
  rcases Nat.eq_zero_or_pos y with e | e
  · subst e
    exact absurd (by decide) h
  · exact e

def f_Search_shiftOf (hr : Int32) : Int32 := (4 : Int32) * ((5 : Int32) - hr)
set_option maxRecDepth 20000 in
set_option maxHeartbeats 4000000 in
theorem c_Search_shiftOf {G : mG} {h : mHp} {hr : Int32}    : Ret G 0 mX5_shiftOf [.int hr] h (some (.int (f_Search_shiftOf hr))) h := by
  generalize hf : f_Search_shiftOf hr = R
  unfold f_Search_shiftOf at hf
  refine Ret.of [(0, .int hr)] (by decide) (Nat.le_of_ble_eq_true rfl) rfl ?_
  rintro Z rfl X Y
  refine r_iconst X (4 : Int32) dX5_shiftOf_0 (by decide) ?_
  refine r_iconst X (5 : Int32) dX5_shiftOf_1 (by decide) ?_
  refine r_iload_n X 0 dX5_shiftOf_2 rfl ?_
  refine r_isub X dX5_shiftOf_3 ?_
  refine r_imul X dX5_shiftOf_4 ?_
  try subst hf
  exact r_ireturn X Y dX5_shiftOf_5 rfl rfl

def f_Search_costOf (be : Int64) : Int32 := if be < (0 : Int64) then (-1000000 : Int32) else (be >>> ((24 : Int32).toInt64 &&& 63)).toInt32
set_option maxRecDepth 20000 in
set_option maxHeartbeats 4000000 in
theorem c_Search_costOf {G : mG} {h : mHp} {be : Int64}    : Ret G 0 mX5_costOf [.long be] h (some (.int (f_Search_costOf be))) h := by
  generalize hf : f_Search_costOf be = R
  unfold f_Search_costOf at hf
  refine Ret.of [(0, .long be)] (by decide) (Nat.le_of_ble_eq_true rfl) rfl ?_
  rintro Z rfl X Y
  refine r_lload_n X 0 dX5_costOf_0 rfl ?_
  refine r_lconst X (0 : Int64) dX5_costOf_1 (by decide) ?_
  refine m_join (P := SW Z 16 [] [.int (if be < (0 : Int64) then (-1000000 : Int32) else (be >>> ((24 : Int32).toInt64 &&& 63)).toInt32)] h) (fun K => ?_) ?_
  · refine r_lcmp_ge X 11 dX5_costOf_2 dX5_costOf_3 rfl (fun c1 => ?_) (fun c1 => ?_)
    · skip
      refine r_lload_n X 0 dX5_costOf_11 rfl ?_
      refine r_bipush X (24 : Int32) dX5_costOf_12 (by decide) ?_
      refine r_lshr X dX5_costOf_14 ?_
      refine r_l2i X dX5_costOf_15 ?_
      refine SW.pick [] [] rfl ?_
      try simp only [if_neg c1] at K ⊢
      exact K
    · skip
      refine r_ldc X dX5_costOf_6 kk_X5_51 ?_
      refine r_goto X 16 dX5_costOf_8 rfl ?_
      refine SW.pick [] [] rfl ?_
      try simp only [if_pos c1] at K ⊢
      exact K
  try subst hf
  exact r_ireturn X Y dX5_costOf_16 rfl rfl

def f_Search_unitsIn (be : Int64) (hr : Int32) : Int32 := ((be >>> ((f_Search_shiftOf hr).toInt64 &&& 63)).toInt32) &&& (15 : Int32)
set_option maxRecDepth 20000 in
set_option maxHeartbeats 4000000 in
theorem c_Search_unitsIn {G : mG} {h : mHp} {be : Int64} {hr : Int32}    : Ret G 1 mX5_unitsIn [.long be, .int hr] h (some (.int (f_Search_unitsIn be hr))) h := by
  generalize hf : f_Search_unitsIn be hr = R
  unfold f_Search_unitsIn at hf
  refine Ret.of [(0, .long be), (2, .int hr)] (by decide) (Nat.le_of_ble_eq_true rfl) rfl ?_
  rintro Z rfl X Y
  refine r_lload_n X 0 dX5_unitsIn_0 rfl ?_
  refine r_iload_n X 1 dX5_unitsIn_1 rfl ?_
  refine cl_X5_52 X (by decide) dX5_unitsIn_2 (Nat.le_of_ble_eq_true rfl) (c_Search_shiftOf  ) ?_
  refine r_lshr X dX5_unitsIn_5 ?_
  refine r_l2i X dX5_unitsIn_6 ?_
  refine r_bipush X (15 : Int32) dX5_unitsIn_7 (by decide) ?_
  refine r_iand X dX5_unitsIn_9 ?_
  try subst hf
  exact r_ireturn X Y dX5_unitsIn_10 rfl rfl

def f_Search_hoursOf_L5s (x0 : Int64) (x2 : Int32) (k5 : Nat) (x3 : Int32) : Int32 := x3 ||| ((((f_Search_unitsIn x0 (nI k5)) >>> (x2 &&& 31)) &&& (1 : Int32)) <<< ((nI k5) &&& 31))
def f_Search_hoursOf_L5 (x0 : Int64) (x2 : Int32) (x3 : Int32) : Nat → Int32
  | 0 => x3
  | k5 + 1 => f_Search_hoursOf_L5s x0 x2 k5 (f_Search_hoursOf_L5 x0 x2 x3 k5)
def f_Search_hoursOf (be : Int64) (u : Int32) : Int32 := (f_Search_hoursOf_L5 be u (0 : Int32) 6)
set_option maxRecDepth 20000 in
set_option maxHeartbeats 4000000 in
theorem c_Search_hoursOf {G : mG} {h : mHp} {be : Int64} {u : Int32}    : Ret G 2 mX5_hoursOf [.long be, .int u] h (some (.int (f_Search_hoursOf be u))) h := by
  generalize hf : f_Search_hoursOf be u = R
  unfold f_Search_hoursOf at hf
  refine Ret.of [(0, .long be), (2, .int u)] (by decide) (Nat.le_of_ble_eq_true rfl) rfl ?_
  rintro Z rfl X Y
  refine r_iconst X (0 : Int32) dX5_hoursOf_0 (by decide) ?_
  refine r_istore_n [(0, .long be), (2, .int u), (3, .int (0 : Int32))] X dX5_hoursOf_1 rfl (by decide) rfl ?_
  refine r_iconst X (0 : Int32) dX5_hoursOf_2 (by decide) ?_
  refine r_istore [(0, .long be), (2, .int u), (3, .int (0 : Int32)), (4, .int (0 : Int32))] X dX5_hoursOf_3 (by decide) rfl ?_
  refine loop_up (P := fun k1 => SW Z 5 [(0, .long be), (2, .int u), (3, .int (f_Search_hoursOf_L5 be u (0 : Int32) k1)), (4, .int (nI k1))] [] h) 6 ?_ ?_ 0 (Nat.zero_le _)
  rotate_left
  · intro k1 hk1 ih
    refine r_iload X 3 dX5_hoursOf_5 rfl ?_
    refine r_bipush X (6 : Int32) dX5_hoursOf_7 (by decide) ?_
    refine r_icmp_ge X 34 dX5_hoursOf_9 rfl (fun z => absurd (nI_lt (a := k1) (b := 6) (by omega) (by omega)) z) (fun _ => ?_)
    refine r_iload_n X 2 dX5_hoursOf_12 rfl ?_
    refine r_lload_n X 0 dX5_hoursOf_13 rfl ?_
    refine r_iload X 3 dX5_hoursOf_14 rfl ?_
    refine cl_X5_56 X (by decide) dX5_hoursOf_16 (Nat.le_of_ble_eq_true rfl) (c_Search_unitsIn  ) ?_
    refine r_iload_n X 1 dX5_hoursOf_19 rfl ?_
    refine r_ishr X dX5_hoursOf_20 ?_
    refine r_iconst X (1 : Int32) dX5_hoursOf_21 (by decide) ?_
    refine r_iand X dX5_hoursOf_22 ?_
    refine r_iload X 3 dX5_hoursOf_23 rfl ?_
    refine r_ishl X dX5_hoursOf_25 ?_
    refine r_ior X dX5_hoursOf_26 ?_
    refine r_istore_n [(0, .long be), (2, .int u), (3, .int ((f_Search_hoursOf_L5 be u (0 : Int32) k1) ||| ((((f_Search_unitsIn be (nI k1)) >>> (u &&& 31)) &&& (1 : Int32)) <<< ((nI k1) &&& 31)))), (4, .int (nI k1))] X dX5_hoursOf_27 rfl (by decide) rfl ?_
    refine r_iinc [(0, .long be), (2, .int u), (3, .int ((f_Search_hoursOf_L5 be u (0 : Int32) k1) ||| ((((f_Search_unitsIn be (nI k1)) >>> (u &&& 31)) &&& (1 : Int32)) <<< ((nI k1) &&& 31)))), (4, .int (nI (k1 + 1)))] X (nI (k1 + 1)) 3 dX5_hoursOf_28 rfl (nI_succ _).symm (by decide) rfl ?_
    refine r_goto X 5 dX5_hoursOf_31 rfl ?_
    exact ih
  refine r_iload X 3 dX5_hoursOf_5 rfl ?_
  refine r_bipush X (6 : Int32) dX5_hoursOf_7 (by decide) ?_
  refine r_icmp_ge X 34 dX5_hoursOf_9 rfl (fun _ => ?_) (fun z => absurd z (nI_nlt (a := 6) (b := 6) (by omega) (by omega)))
  refine r_iload_n X 2 dX5_hoursOf_34 rfl ?_
  try subst hf
  exact r_ireturn X Y dX5_hoursOf_35 rfl rfl

def f_Search_fillStates_L3s (ri : Nat) (x2 : Int64) (k3 : Nat) (w3 : Nat → Nat → Int64) : (Nat → Nat → Int64) := va_up w3 ri (vp_updL (w3 ri) k3 x2)
def f_Search_fillStates_L3 (ri : Nat) (x2 : Int64) (w3 : Nat → Nat → Int64) : Nat → (Nat → Nat → Int64)
  | 0 => w3
  | k3 + 1 => f_Search_fillStates_L3s ri x2 k3 (f_Search_fillStates_L3 ri x2 w3 k3)
def f_Search_fillStates (w3 : Nat → Nat → Int64) (ss : Nat) (v : Int64) (ri : Nat) : (Nat → Nat → Int64) := (f_Search_fillStates_L3 ri v w3 ss)
set_option maxRecDepth 20000 in
set_option maxHeartbeats 4000000 in
theorem c_Search_fillStates {G : mG} {h : mHp} {sb : Nat} {con : Nat → Int32} {cst : Nat → Int32} {cpa : Nat → Int64} {car : Nat → Int64} {sc : Nat → Nat} {sz : Nat → Nat} {wt : Nat → Nat} {tof : Nat → Nat → Int32} {ton : Nat → Nat → Int32} {w3 : Nat → Nat → Int64} {pa : Nat} {pb : Nat} {ps : Nat} {su : Nat} {ss : Nat} {sk : Nat} {v : Int64} {ri : Nat}   (hri : ri < 3) (hss : ss ≤ 1296) : Ret G 0 mX5_fillStates [.ref sb, .ref (sb + (18 + ri)), .long v] (ov h sb (seaL sb con cst cpa car sc sz wt tof ton w3 pa pb ps su ss sk)) none (ov h sb (seaL sb con cst cpa car sc sz wt tof ton (f_Search_fillStates w3 ss v ri) pa pb ps su ss sk)) := by
  generalize hf : f_Search_fillStates w3 ss v ri = R
  unfold f_Search_fillStates at hf
  refine Ret.of [(0, .ref sb), (1, .ref (sb + (18 + ri))), (2, .long v)] (by decide) (Nat.le_of_ble_eq_true rfl) rfl ?_
  rintro Z rfl X Y
  have hv_s : isV (ov h sb (seaL sb con cst cpa car sc sz wt tof ton w3 pa pb ps su ss sk)) sb (seaL sb con cst cpa car sc sz wt tof ton w3 pa pb ps su ss sk) := ov_isV
  refine r_iconst X (0 : Int32) dX5_fillStates_0 (by decide) ?_
  refine r_istore [(0, .ref sb), (1, .ref (sb + (18 + ri))), (2, .long v), (4, .int (0 : Int32))] X dX5_fillStates_1 (by decide) rfl ?_
  refine loop_up (P := fun k1 => SW Z 3 [(0, .ref sb), (1, .ref (sb + (18 + ri))), (2, .long v), (4, .int (nI k1))] [] (ov h sb (seaL sb con cst cpa car sc sz wt tof ton (f_Search_fillStates_L3 ri v w3 k1) pa pb ps su ss sk))) ss ?_ ?_ 0 (Nat.zero_le _)
  rotate_left
  · intro k1 hk1 ih
    have hv_s : isV (ov h sb (seaL sb con cst cpa car sc sz wt tof ton (f_Search_fillStates_L3 ri v w3 k1) pa pb ps su ss sk)) sb (seaL sb con cst cpa car sc sz wt tof ton (f_Search_fillStates_L3 ri v w3 k1) pa pb ps su ss sk) := ov_isV
    refine r_iload X 3 dX5_fillStates_3 rfl ?_
    refine r_aload_n X 0 dX5_fillStates_5 rfl ?_
    refine gf_X5_75 X dX5_fillStates_6 (hv_s 0 _ rfl) rfl ?_
    refine r_icmp_ge X 23 dX5_fillStates_9 rfl (fun z => absurd (nI_lt (a := k1) (b := ss) (by omega) (by omega)) z) (fun _ => ?_)
    refine r_aload_n X 1 dX5_fillStates_12 rfl ?_
    refine r_iload X 3 dX5_fillStates_13 rfl ?_
    refine r_lload_n X 2 dX5_fillStates_15 rfl ?_
    refine r_lastn X (k0 := k1) dX5_fillStates_16 (hv_s (18 + ri) _ (seaL_w3 (by omega))) (by omega) (by first | decide | omega) ?_
    refine SW.heq (h2 := (ov h sb (seaL sb con cst cpa car sc sz wt tof ton (va_up (f_Search_fillStates_L3 ri v w3 k1) ri (vp_updL ((f_Search_fillStates_L3 ri v w3 k1) ri) k1 v)) pa pb ps su ss sk))) (ov_up (18 + ri) (show _ < 21 by omega) (seaL_w3set (by omega))) ?_
    have hv_s : isV (ov h sb (seaL sb con cst cpa car sc sz wt tof ton (va_up (f_Search_fillStates_L3 ri v w3 k1) ri (vp_updL ((f_Search_fillStates_L3 ri v w3 k1) ri) k1 v)) pa pb ps su ss sk)) sb (seaL sb con cst cpa car sc sz wt tof ton (va_up (f_Search_fillStates_L3 ri v w3 k1) ri (vp_updL ((f_Search_fillStates_L3 ri v w3 k1) ri) k1 v)) pa pb ps su ss sk) := ov_isV
    refine r_iinc [(0, .ref sb), (1, .ref (sb + (18 + ri))), (2, .long v), (4, .int (nI (k1 + 1)))] X (nI (k1 + 1)) 3 dX5_fillStates_17 rfl (nI_succ _).symm (by decide) rfl ?_
    refine r_goto X 3 dX5_fillStates_20 rfl ?_
    exact ih
  have hv_s : isV (ov h sb (seaL sb con cst cpa car sc sz wt tof ton (f_Search_fillStates_L3 ri v w3 ss) pa pb ps su ss sk)) sb (seaL sb con cst cpa car sc sz wt tof ton (f_Search_fillStates_L3 ri v w3 ss) pa pb ps su ss sk) := ov_isV
  refine r_iload X 3 dX5_fillStates_3 rfl ?_
  refine r_aload_n X 0 dX5_fillStates_5 rfl ?_
  refine gf_X5_75 X dX5_fillStates_6 (hv_s 0 _ rfl) rfl ?_
  refine r_icmp_ge X 23 dX5_fillStates_9 rfl (fun _ => ?_) (fun z => absurd z (nI_nlt (a := ss) (b := ss) (by omega) (by omega)))
  try subst hf
  exact r_return X Y dX5_fillStates_23 rfl rfl

def f_Search_addParts_L2s (cpa : Nat → Int64) (sc : Nat → Nat) (ri : Nat) (k2 : Nat) (w3 : Nat → Nat → Int64) : (Nat → Nat → Int64) := (if ((w3 ri) k2) < (1152921504606846976 : Int64) then va_up w3 ri (vp_updL (w3 ri) k2 (if (cpa (sc k2)) < (1152921504606846976 : Int64) then ((w3 ri) k2) + (cpa (sc k2)) else (1152921504606846976 : Int64))) else w3)
def f_Search_addParts_L2 (cpa : Nat → Int64) (sc : Nat → Nat) (ri : Nat) (w3 : Nat → Nat → Int64) : Nat → (Nat → Nat → Int64)
  | 0 => w3
  | k2 + 1 => f_Search_addParts_L2s cpa sc ri k2 (f_Search_addParts_L2 cpa sc ri w3 k2)
def f_Search_addParts (cpa : Nat → Int64) (sc : Nat → Nat) (w3 : Nat → Nat → Int64) (ss : Nat) (ri : Nat) : (Nat → Nat → Int64) := (f_Search_addParts_L2 cpa sc ri w3 ss)
set_option maxRecDepth 20000 in
set_option maxHeartbeats 4000000 in
theorem c_Search_addParts {G : mG} {h : mHp} {sb : Nat} {con : Nat → Int32} {cst : Nat → Int32} {cpa : Nat → Int64} {car : Nat → Int64} {sc : Nat → Nat} {sz : Nat → Nat} {wt : Nat → Nat} {tof : Nat → Nat → Int32} {ton : Nat → Nat → Int32} {w3 : Nat → Nat → Int64} {pa : Nat} {pb : Nat} {ps : Nat} {su : Nat} {ss : Nat} {sk : Nat} {ri : Nat}   (hri : ri < 3) (hss : ss ≤ 1296) (hsc : ∀ j, j < ss → sc j < 81) : Ret G 0 mX5_addParts [.ref sb, .ref (sb + (18 + ri))] (ov h sb (seaL sb con cst cpa car sc sz wt tof ton w3 pa pb ps su ss sk)) none (ov h sb (seaL sb con cst cpa car sc sz wt tof ton (f_Search_addParts cpa sc w3 ss ri) pa pb ps su ss sk)) := by
  generalize hf : f_Search_addParts cpa sc w3 ss ri = R
  unfold f_Search_addParts at hf
  refine Ret.of [(0, .ref sb), (1, .ref (sb + (18 + ri)))] (by decide) (Nat.le_of_ble_eq_true rfl) rfl ?_
  rintro Z rfl X Y
  have hv_s : isV (ov h sb (seaL sb con cst cpa car sc sz wt tof ton w3 pa pb ps su ss sk)) sb (seaL sb con cst cpa car sc sz wt tof ton w3 pa pb ps su ss sk) := ov_isV
  refine r_iconst X (0 : Int32) dX5_addParts_0 (by decide) ?_
  refine r_istore_n [(0, .ref sb), (1, .ref (sb + (18 + ri))), (2, .int (0 : Int32))] X dX5_addParts_1 rfl (by decide) rfl ?_
  refine loop_up (P := fun k3 => SW Z 2 [(0, .ref sb), (1, .ref (sb + (18 + ri))), (2, .int (nI k3))] [] (ov h sb (seaL sb con cst cpa car sc sz wt tof ton (f_Search_addParts_L2 cpa sc ri w3 k3) pa pb ps su ss sk))) ss ?_ ?_ 0 (Nat.zero_le _)
  rotate_left
  · intro k3 hk3 ih
    have hv_s : isV (ov h sb (seaL sb con cst cpa car sc sz wt tof ton (f_Search_addParts_L2 cpa sc ri w3 k3) pa pb ps su ss sk)) sb (seaL sb con cst cpa car sc sz wt tof ton (f_Search_addParts_L2 cpa sc ri w3 k3) pa pb ps su ss sk) := ov_isV
    refine r_iload_n X 2 dX5_addParts_2 rfl ?_
    refine r_aload_n X 0 dX5_addParts_3 rfl ?_
    refine gf_X5_75 X dX5_addParts_4 (hv_s 0 _ rfl) rfl ?_
    refine r_icmp_ge X 60 dX5_addParts_7 rfl (fun z => absurd (nI_lt (a := k3) (b := ss) (by omega) (by omega)) z) (fun _ => ?_)
    refine r_aload_n X 1 dX5_addParts_10 rfl ?_
    refine r_iload_n X 2 dX5_addParts_11 rfl ?_
    refine r_laldn X (k0 := k3) dX5_addParts_12 (hv_s (18 + ri) _ (seaL_w3 (by omega))) (by first | omega | exact hsc _ (by omega)) (by decide) ?_
    refine r_ldc2 X dX5_addParts_13 kk_X5_73 ?_
    refine m_join (P := SW Z 54 [(0, .ref sb), (1, .ref (sb + (18 + ri))), (2, .int (nI k3))] [] (ov h sb (seaL sb con cst cpa car sc sz wt tof ton (if (((f_Search_addParts_L2 cpa sc ri w3 k3) ri) k3) < (1152921504606846976 : Int64) then va_up (f_Search_addParts_L2 cpa sc ri w3 k3) ri (vp_updL ((f_Search_addParts_L2 cpa sc ri w3 k3) ri) k3 (if (cpa (sc k3)) < (1152921504606846976 : Int64) then (((f_Search_addParts_L2 cpa sc ri w3 k3) ri) k3) + (cpa (sc k3)) else (1152921504606846976 : Int64))) else (f_Search_addParts_L2 cpa sc ri w3 k3)) pa pb ps su ss sk))) (fun K => ?_) ?_
    · refine r_lcmp_ge X 54 dX5_addParts_16 dX5_addParts_17 rfl (fun c4 => ?_) (fun c4 => ?_)
      · skip
        try simp only [if_neg c4] at K ⊢
        exact K
      · skip
        refine r_aload_n X 0 dX5_addParts_20 rfl ?_
        refine gf_X5_18 X dX5_addParts_21 (hv_s 0 _ rfl) rfl ?_
        refine r_aload_n X 0 dX5_addParts_24 rfl ?_
        refine gf_X5_25 X dX5_addParts_25 (hv_s 0 _ rfl) rfl ?_
        refine r_iload_n X 2 dX5_addParts_28 rfl ?_
        refine r_ialdn X (k0 := k3) dX5_addParts_29 (hv_s 5 _ rfl) (by first | omega | exact hsc _ (by omega)) (by decide) ?_
        refine r_laldn X (k0 := sc k3) dX5_addParts_30 (hv_s 3 _ rfl) (by first | omega | exact hsc _ (by omega)) (by decide) ?_
        refine r_lstore_n [(0, .ref sb), (1, .ref (sb + (18 + ri))), (2, .int (nI k3)), (3, .long (cpa (sc k3)))] X dX5_addParts_31 rfl (by decide) rfl ?_
        refine r_aload_n X 1 dX5_addParts_32 rfl ?_
        refine r_iload_n X 2 dX5_addParts_33 rfl ?_
        refine r_lload_n X 3 dX5_addParts_34 rfl ?_
        refine r_ldc2 X dX5_addParts_35 kk_X5_73 ?_
        refine m_join (P := SW Z 53 [(0, .ref sb), (1, .ref (sb + (18 + ri))), (2, .int (nI k3))] [.long (if (cpa (sc k3)) < (1152921504606846976 : Int64) then (((f_Search_addParts_L2 cpa sc ri w3 k3) ri) k3) + (cpa (sc k3)) else (1152921504606846976 : Int64)), .int (nI k3), .ref (sb + (18 + ri))] (ov h sb (seaL sb con cst cpa car sc sz wt tof ton (f_Search_addParts_L2 cpa sc ri w3 k3) pa pb ps su ss sk))) (fun K => ?_) ?_
        · refine r_lcmp_ge X 50 dX5_addParts_38 dX5_addParts_39 rfl (fun c5 => ?_) (fun c5 => ?_)
          · skip
            refine r_ldc2 X dX5_addParts_50 kk_X5_73 ?_
            refine SW.pick [0, 1, 2] [(0, .ref sb), (1, .ref (sb + (18 + ri))), (2, .int (nI k3))] rfl ?_
            try simp only [if_neg c5] at K ⊢
            exact K
          · skip
            refine r_aload_n X 1 dX5_addParts_42 rfl ?_
            refine r_iload_n X 2 dX5_addParts_43 rfl ?_
            refine r_laldn X (k0 := k3) dX5_addParts_44 (hv_s (18 + ri) _ (seaL_w3 (by omega))) (by first | omega | exact hsc _ (by omega)) (by decide) ?_
            refine r_lload_n X 3 dX5_addParts_45 rfl ?_
            refine r_ladd X dX5_addParts_46 ?_
            refine r_goto X 53 dX5_addParts_47 rfl ?_
            refine SW.pick [0, 1, 2] [(0, .ref sb), (1, .ref (sb + (18 + ri))), (2, .int (nI k3))] rfl ?_
            try simp only [if_pos c5] at K ⊢
            exact K
        have hv_s : isV (ov h sb (seaL sb con cst cpa car sc sz wt tof ton (f_Search_addParts_L2 cpa sc ri w3 k3) pa pb ps su ss sk)) sb (seaL sb con cst cpa car sc sz wt tof ton (f_Search_addParts_L2 cpa sc ri w3 k3) pa pb ps su ss sk) := ov_isV
        refine r_lastn X (k0 := k3) dX5_addParts_53 (hv_s (18 + ri) _ (seaL_w3 (by omega))) (by first | omega | exact hsc _ (by omega)) (by first | decide | omega) ?_
        refine SW.heq (h2 := (ov h sb (seaL sb con cst cpa car sc sz wt tof ton (va_up (f_Search_addParts_L2 cpa sc ri w3 k3) ri (vp_updL ((f_Search_addParts_L2 cpa sc ri w3 k3) ri) k3 (if (cpa (sc k3)) < (1152921504606846976 : Int64) then (((f_Search_addParts_L2 cpa sc ri w3 k3) ri) k3) + (cpa (sc k3)) else (1152921504606846976 : Int64)))) pa pb ps su ss sk))) (ov_up (18 + ri) (show _ < 21 by omega) (seaL_w3set (by omega))) ?_
        have hv_s : isV (ov h sb (seaL sb con cst cpa car sc sz wt tof ton (va_up (f_Search_addParts_L2 cpa sc ri w3 k3) ri (vp_updL ((f_Search_addParts_L2 cpa sc ri w3 k3) ri) k3 (if (cpa (sc k3)) < (1152921504606846976 : Int64) then (((f_Search_addParts_L2 cpa sc ri w3 k3) ri) k3) + (cpa (sc k3)) else (1152921504606846976 : Int64)))) pa pb ps su ss sk)) sb (seaL sb con cst cpa car sc sz wt tof ton (va_up (f_Search_addParts_L2 cpa sc ri w3 k3) ri (vp_updL ((f_Search_addParts_L2 cpa sc ri w3 k3) ri) k3 (if (cpa (sc k3)) < (1152921504606846976 : Int64) then (((f_Search_addParts_L2 cpa sc ri w3 k3) ri) k3) + (cpa (sc k3)) else (1152921504606846976 : Int64)))) pa pb ps su ss sk) := ov_isV
        try simp only [if_pos c4] at K ⊢
        exact K
    have hv_s : isV (ov h sb (seaL sb con cst cpa car sc sz wt tof ton (if (((f_Search_addParts_L2 cpa sc ri w3 k3) ri) k3) < (1152921504606846976 : Int64) then va_up (f_Search_addParts_L2 cpa sc ri w3 k3) ri (vp_updL ((f_Search_addParts_L2 cpa sc ri w3 k3) ri) k3 (if (cpa (sc k3)) < (1152921504606846976 : Int64) then (((f_Search_addParts_L2 cpa sc ri w3 k3) ri) k3) + (cpa (sc k3)) else (1152921504606846976 : Int64))) else (f_Search_addParts_L2 cpa sc ri w3 k3)) pa pb ps su ss sk)) sb (seaL sb con cst cpa car sc sz wt tof ton (if (((f_Search_addParts_L2 cpa sc ri w3 k3) ri) k3) < (1152921504606846976 : Int64) then va_up (f_Search_addParts_L2 cpa sc ri w3 k3) ri (vp_updL ((f_Search_addParts_L2 cpa sc ri w3 k3) ri) k3 (if (cpa (sc k3)) < (1152921504606846976 : Int64) then (((f_Search_addParts_L2 cpa sc ri w3 k3) ri) k3) + (cpa (sc k3)) else (1152921504606846976 : Int64))) else (f_Search_addParts_L2 cpa sc ri w3 k3)) pa pb ps su ss sk) := ov_isV
    refine r_iinc [(0, .ref sb), (1, .ref (sb + (18 + ri))), (2, .int (nI (k3 + 1)))] X (nI (k3 + 1)) 2 dX5_addParts_54 rfl (nI_succ _).symm (by decide) rfl ?_
    refine r_goto X 2 dX5_addParts_57 rfl ?_
    exact ih
  have hv_s : isV (ov h sb (seaL sb con cst cpa car sc sz wt tof ton (f_Search_addParts_L2 cpa sc ri w3 ss) pa pb ps su ss sk)) sb (seaL sb con cst cpa car sc sz wt tof ton (f_Search_addParts_L2 cpa sc ri w3 ss) pa pb ps su ss sk) := ov_isV
  refine r_iload_n X 2 dX5_addParts_2 rfl ?_
  refine r_aload_n X 0 dX5_addParts_3 rfl ?_
  refine gf_X5_75 X dX5_addParts_4 (hv_s 0 _ rfl) rfl ?_
  refine r_icmp_ge X 60 dX5_addParts_7 rfl (fun _ => ?_) (fun z => absurd z (nI_nlt (a := ss) (b := ss) (by omega) (by omega)))
  try subst hf
  exact r_return X Y dX5_addParts_60 rfl rfl

def f_Search_layCombos_L2s (ss : Nat) (sk : Nat) (n1 : Nat) (n2 : Nat) (k2 : Nat) (sc : Nat → Nat) : (Nat → Nat) := va_up sc ((n1 * ss) + k2) ((sc k2) + (n2 * sk))
def f_Search_layCombos_L2 (ss : Nat) (sk : Nat) (n1 : Nat) (n2 : Nat) (sc : Nat → Nat) : Nat → (Nat → Nat)
  | 0 => sc
  | k2 + 1 => f_Search_layCombos_L2s ss sk n1 n2 k2 (f_Search_layCombos_L2 ss sk n1 n2 sc k2)
def f_Search_layCombos (sc : Nat → Nat) (ss : Nat) (sk : Nat) (ow : Nat) (ac : Nat) : (Nat → Nat) := (f_Search_layCombos_L2 ss sk ow ac sc ss)
set_option maxRecDepth 20000 in
set_option maxHeartbeats 4000000 in
theorem c_Search_layCombos {G : mG} {h : mHp} {sb : Nat} {con : Nat → Int32} {cst : Nat → Int32} {cpa : Nat → Int64} {car : Nat → Int64} {sc : Nat → Nat} {sz : Nat → Nat} {wt : Nat → Nat} {tof : Nat → Nat → Int32} {ton : Nat → Nat → Int32} {w3 : Nat → Nat → Int64} {pa : Nat} {pb : Nat} {ps : Nat} {su : Nat} {ss : Nat} {sk : Nat} {ow : Nat} {ac : Nat}   (hlc : ow * ss + ss ≤ 1296) : Ret G 0 mX5_layCombos [.ref sb, .int (nI ow), .int (nI ac)] (ov h sb (seaL sb con cst cpa car sc sz wt tof ton w3 pa pb ps su ss sk)) none (ov h sb (seaL sb con cst cpa car (f_Search_layCombos sc ss sk ow ac) sz wt tof ton w3 pa pb ps su ss sk)) := by
  generalize hf : f_Search_layCombos sc ss sk ow ac = R
  unfold f_Search_layCombos at hf
  refine Ret.of [(0, .ref sb), (1, .int (nI ow)), (2, .int (nI ac))] (by decide) (Nat.le_of_ble_eq_true rfl) rfl ?_
  rintro Z rfl X Y
  have hv_s : isV (ov h sb (seaL sb con cst cpa car sc sz wt tof ton w3 pa pb ps su ss sk)) sb (seaL sb con cst cpa car sc sz wt tof ton w3 pa pb ps su ss sk) := ov_isV
  refine r_iconst X (0 : Int32) dX5_layCombos_0 (by decide) ?_
  refine r_istore_n [(0, .ref sb), (1, .int (nI ow)), (2, .int (nI ac)), (3, .int (0 : Int32))] X dX5_layCombos_1 rfl (by decide) rfl ?_
  refine loop_up (P := fun k1 => SW Z 2 [(0, .ref sb), (1, .int (nI ow)), (2, .int (nI ac)), (3, .int (nI k1))] [] (ov h sb (seaL sb con cst cpa car (f_Search_layCombos_L2 ss sk ow ac sc k1) sz wt tof ton w3 pa pb ps su ss sk))) ss ?_ ?_ 0 (Nat.zero_le _)
  rotate_left
  · intro k1 hk1 ih
    have hv_s : isV (ov h sb (seaL sb con cst cpa car (f_Search_layCombos_L2 ss sk ow ac sc k1) sz wt tof ton w3 pa pb ps su ss sk)) sb (seaL sb con cst cpa car (f_Search_layCombos_L2 ss sk ow ac sc k1) sz wt tof ton w3 pa pb ps su ss sk) := ov_isV
    refine r_iload_n X 3 dX5_layCombos_2 rfl ?_
    refine r_aload_n X 0 dX5_layCombos_3 rfl ?_
    refine gf_X5_75 X dX5_layCombos_4 (hv_s 0 _ rfl) rfl ?_
    refine r_icmp_ge X 42 dX5_layCombos_7 rfl (fun z => absurd (nI_lt (a := k1) (b := ss) (by omega) (by omega)) z) (fun _ => ?_)
    refine r_aload_n X 0 dX5_layCombos_10 rfl ?_
    refine gf_X5_25 X dX5_layCombos_11 (hv_s 0 _ rfl) rfl ?_
    refine r_iload_n X 1 dX5_layCombos_14 rfl ?_
    refine r_aload_n X 0 dX5_layCombos_15 rfl ?_
    refine gf_X5_75 X dX5_layCombos_16 (hv_s 0 _ rfl) rfl ?_
    refine r_imuln X (a := ow) (b := ss) dX5_layCombos_19 ?_
    refine r_iload_n X 3 dX5_layCombos_20 rfl ?_
    refine r_iaddn X (a := ow * ss) (b := k1) dX5_layCombos_21 ?_
    refine r_aload_n X 0 dX5_layCombos_22 rfl ?_
    refine gf_X5_25 X dX5_layCombos_23 (hv_s 0 _ rfl) rfl ?_
    refine r_iload_n X 3 dX5_layCombos_26 rfl ?_
    refine r_ialdn X (k0 := k1) dX5_layCombos_27 (hv_s 5 _ rfl) (by omega) (by decide) ?_
    refine r_iload_n X 2 dX5_layCombos_28 rfl ?_
    refine r_aload_n X 0 dX5_layCombos_29 rfl ?_
    refine gf_X5_98 X dX5_layCombos_30 (hv_s 0 _ rfl) rfl ?_
    refine r_imuln X (a := ac) (b := sk) dX5_layCombos_33 ?_
    refine r_iaddn X (a := (f_Search_layCombos_L2 ss sk ow ac sc k1) k1) (b := ac * sk) dX5_layCombos_34 ?_
    refine r_iastn X (k0 := (ow * ss) + k1) dX5_layCombos_35 (hv_s 5 _ rfl) (by omega) (by first | decide | omega) ?_
    refine SW.heq (h2 := (ov h sb (seaL sb con cst cpa car (va_up (f_Search_layCombos_L2 ss sk ow ac sc k1) ((ow * ss) + k1) (((f_Search_layCombos_L2 ss sk ow ac sc k1) k1) + (ac * sk))) sz wt tof ton w3 pa pb ps su ss sk))) (by rw [updN]; exact ov_up 5 (Nat.le_of_ble_eq_true rfl) rfl) ?_
    have hv_s : isV (ov h sb (seaL sb con cst cpa car (va_up (f_Search_layCombos_L2 ss sk ow ac sc k1) ((ow * ss) + k1) (((f_Search_layCombos_L2 ss sk ow ac sc k1) k1) + (ac * sk))) sz wt tof ton w3 pa pb ps su ss sk)) sb (seaL sb con cst cpa car (va_up (f_Search_layCombos_L2 ss sk ow ac sc k1) ((ow * ss) + k1) (((f_Search_layCombos_L2 ss sk ow ac sc k1) k1) + (ac * sk))) sz wt tof ton w3 pa pb ps su ss sk) := ov_isV
    refine r_iinc [(0, .ref sb), (1, .int (nI ow)), (2, .int (nI ac)), (3, .int (nI (k1 + 1)))] X (nI (k1 + 1)) 3 dX5_layCombos_36 rfl (nI_succ _).symm (by decide) rfl ?_
    refine r_goto X 2 dX5_layCombos_39 rfl ?_
    exact ih
  have hv_s : isV (ov h sb (seaL sb con cst cpa car (f_Search_layCombos_L2 ss sk ow ac sc ss) sz wt tof ton w3 pa pb ps su ss sk)) sb (seaL sb con cst cpa car (f_Search_layCombos_L2 ss sk ow ac sc ss) sz wt tof ton w3 pa pb ps su ss sk) := ov_isV
  refine r_iload_n X 3 dX5_layCombos_2 rfl ?_
  refine r_aload_n X 0 dX5_layCombos_3 rfl ?_
  refine gf_X5_75 X dX5_layCombos_4 (hv_s 0 _ rfl) rfl ?_
  refine r_icmp_ge X 42 dX5_layCombos_7 rfl (fun _ => ?_) (fun z => absurd z (nI_nlt (a := ss) (b := ss) (by omega) (by omega)))
  try subst hf
  exact r_return X Y dX5_layCombos_42 rfl rfl

def f_Search_layOnlyState (sc : Nat → Nat) (sz : Nat → Nat) (tof : Nat → Nat → Int32) (ton : Nat → Nat → Int32) (ss : Nat) (sk : Nat) (u : Nat) (ac : Nat) : (Nat → Nat) × (Nat → Nat) × (Nat → Nat → Int32) × (Nat → Nat → Int32) := ((fun q1 => (q1, va_up sz u 1, va_up tof u (upd (tof u) 0 (if (nI ac) = (0 : Int32) then (0 : Int32) else (-1000000 : Int32))), va_up ton u (upd (ton u) 0 (if (nI ac) = (0 : Int32) then (-1000000 : Int32) else (0 : Int32))))) (f_Search_layCombos sc ss sk 0 ac))
set_option maxRecDepth 20000 in
set_option maxHeartbeats 4000000 in
theorem c_Search_layOnlyState {G : mG} {h : mHp} {sb : Nat} {con : Nat → Int32} {cst : Nat → Int32} {cpa : Nat → Int64} {car : Nat → Int64} {sc : Nat → Nat} {sz : Nat → Nat} {wt : Nat → Nat} {tof : Nat → Nat → Int32} {ton : Nat → Nat → Int32} {w3 : Nat → Nat → Int64} {pa : Nat} {pb : Nat} {ps : Nat} {su : Nat} {ss : Nat} {sk : Nat} {u : Nat} {ac : Nat}   (hu : u < 4) (hlc : 0 * ss + ss ≤ 1296) : Ret G 1 mX5_layOnlyState [.ref sb, .int (nI u), .int (nI ac)] (ov h sb (seaL sb con cst cpa car sc sz wt tof ton w3 pa pb ps su ss sk)) none (ov h sb (seaL sb con cst cpa car (f_Search_layOnlyState sc sz tof ton ss sk u ac).1 (f_Search_layOnlyState sc sz tof ton ss sk u ac).2.1 wt (f_Search_layOnlyState sc sz tof ton ss sk u ac).2.2.1 (f_Search_layOnlyState sc sz tof ton ss sk u ac).2.2.2 w3 pa pb ps su ss sk)) := by
  generalize hf : f_Search_layOnlyState sc sz tof ton ss sk u ac = R
  unfold f_Search_layOnlyState at hf
  refine Ret.of [(0, .ref sb), (1, .int (nI u)), (2, .int (nI ac))] (by decide) (Nat.le_of_ble_eq_true rfl) rfl ?_
  rintro Z rfl X Y
  have hv_s : isV (ov h sb (seaL sb con cst cpa car sc sz wt tof ton w3 pa pb ps su ss sk)) sb (seaL sb con cst cpa car sc sz wt tof ton w3 pa pb ps su ss sk) := ov_isV
  refine r_aload_n X 0 dX5_layOnlyState_0 rfl ?_
  refine gf_X5_28 X dX5_layOnlyState_1 (hv_s 0 _ rfl) rfl ?_
  refine r_iload_n X 1 dX5_layOnlyState_4 rfl ?_
  refine r_iconst X (1 : Int32) dX5_layOnlyState_5 (by decide) ?_
  refine r_iastn X (k0 := u) dX5_layOnlyState_6 (hv_s 6 _ rfl) (by omega) (by first | decide | omega) ?_
  refine SW.heq (h2 := (ov h sb (seaL sb con cst cpa car sc (va_up sz u 1) wt tof ton w3 pa pb ps su ss sk))) (by rw [updN]; exact ov_up 6 (Nat.le_of_ble_eq_true rfl) rfl) ?_
  have hv_s : isV (ov h sb (seaL sb con cst cpa car sc (va_up sz u 1) wt tof ton w3 pa pb ps su ss sk)) sb (seaL sb con cst cpa car sc (va_up sz u 1) wt tof ton w3 pa pb ps su ss sk) := ov_isV
  refine r_aload_n X 0 dX5_layOnlyState_7 rfl ?_
  refine gf_X5_36 X dX5_layOnlyState_8 (hv_s 0 _ rfl) rfl ?_
  refine r_iload_n X 1 dX5_layOnlyState_11 rfl ?_
  refine r_aald4n X (k0 := u) (sb + (9 + u)) dX5_layOnlyState_12 (hv_s 8 _ rfl) (by omega) (by decide) rfl ?_
  refine r_iconst X (0 : Int32) dX5_layOnlyState_13 (by decide) ?_
  refine r_iload_n X 2 dX5_layOnlyState_14 rfl ?_
  refine m_join (P := SW Z 24 [(0, .ref sb), (1, .int (nI u)), (2, .int (nI ac))] [.int (if (nI ac) = (0 : Int32) then (0 : Int32) else (-1000000 : Int32)), .int (0 : Int32), .ref (sb + (9 + u))] (ov h sb (seaL sb con cst cpa car sc (va_up sz u 1) wt tof ton w3 pa pb ps su ss sk))) (fun K => ?_) ?_
  · refine r_if_ne X 22 dX5_layOnlyState_15 rfl (fun c1 => ?_) (fun c1 => ?_)
    · skip
      refine r_ldc X dX5_layOnlyState_22 kk_X5_51 ?_
      try simp only [if_neg c1] at K ⊢
      exact K
    · skip
      refine r_iconst X (0 : Int32) dX5_layOnlyState_18 (by decide) ?_
      refine r_goto X 24 dX5_layOnlyState_19 rfl ?_
      try simp only [if_pos c1] at K ⊢
      exact K
  have hv_s : isV (ov h sb (seaL sb con cst cpa car sc (va_up sz u 1) wt tof ton w3 pa pb ps su ss sk)) sb (seaL sb con cst cpa car sc (va_up sz u 1) wt tof ton w3 pa pb ps su ss sk) := ov_isV
  refine r_iastn X (k0 := 0) dX5_layOnlyState_24 (hv_s (9 + u) _ (seaL_tof (by omega))) (by omega) (by first | decide | omega) ?_
  refine SW.heq (h2 := (ov h sb (seaL sb con cst cpa car sc (va_up sz u 1) wt (va_up tof u (upd (tof u) 0 (if (nI ac) = (0 : Int32) then (0 : Int32) else (-1000000 : Int32)))) ton w3 pa pb ps su ss sk))) (ov_up (9 + u) (show _ < 21 by omega) (seaL_tofset (by omega))) ?_
  have hv_s : isV (ov h sb (seaL sb con cst cpa car sc (va_up sz u 1) wt (va_up tof u (upd (tof u) 0 (if (nI ac) = (0 : Int32) then (0 : Int32) else (-1000000 : Int32)))) ton w3 pa pb ps su ss sk)) sb (seaL sb con cst cpa car sc (va_up sz u 1) wt (va_up tof u (upd (tof u) 0 (if (nI ac) = (0 : Int32) then (0 : Int32) else (-1000000 : Int32)))) ton w3 pa pb ps su ss sk) := ov_isV
  refine r_aload_n X 0 dX5_layOnlyState_25 rfl ?_
  refine gf_X5_39 X dX5_layOnlyState_26 (hv_s 0 _ rfl) rfl ?_
  refine r_iload_n X 1 dX5_layOnlyState_29 rfl ?_
  refine r_aald4n X (k0 := u) (sb + (14 + u)) dX5_layOnlyState_30 (hv_s 13 _ rfl) (by omega) (by decide) rfl ?_
  refine r_iconst X (0 : Int32) dX5_layOnlyState_31 (by decide) ?_
  refine r_iload_n X 2 dX5_layOnlyState_32 rfl ?_
  refine m_join (P := SW Z 42 [(0, .ref sb), (2, .int (nI ac))] [.int (if (nI ac) = (0 : Int32) then (-1000000 : Int32) else (0 : Int32)), .int (0 : Int32), .ref (sb + (14 + u))] (ov h sb (seaL sb con cst cpa car sc (va_up sz u 1) wt (va_up tof u (upd (tof u) 0 (if (nI ac) = (0 : Int32) then (0 : Int32) else (-1000000 : Int32)))) ton w3 pa pb ps su ss sk))) (fun K => ?_) ?_
  · refine r_if_ne X 41 dX5_layOnlyState_33 rfl (fun c2 => ?_) (fun c2 => ?_)
    · skip
      refine r_iconst X (0 : Int32) dX5_layOnlyState_41 (by decide) ?_
      refine SW.pick [0, 2] [(0, .ref sb), (2, .int (nI ac))] rfl ?_
      try simp only [if_neg c2] at K ⊢
      exact K
    · skip
      refine r_ldc X dX5_layOnlyState_36 kk_X5_51 ?_
      refine r_goto X 42 dX5_layOnlyState_38 rfl ?_
      refine SW.pick [0, 2] [(0, .ref sb), (2, .int (nI ac))] rfl ?_
      try simp only [if_pos c2] at K ⊢
      exact K
  have hv_s : isV (ov h sb (seaL sb con cst cpa car sc (va_up sz u 1) wt (va_up tof u (upd (tof u) 0 (if (nI ac) = (0 : Int32) then (0 : Int32) else (-1000000 : Int32)))) ton w3 pa pb ps su ss sk)) sb (seaL sb con cst cpa car sc (va_up sz u 1) wt (va_up tof u (upd (tof u) 0 (if (nI ac) = (0 : Int32) then (0 : Int32) else (-1000000 : Int32)))) ton w3 pa pb ps su ss sk) := ov_isV
  refine r_iastn X (k0 := 0) dX5_layOnlyState_42 (hv_s (14 + u) _ (seaL_ton (by omega))) (by omega) (by first | decide | omega) ?_
  refine SW.heq (h2 := (ov h sb (seaL sb con cst cpa car sc (va_up sz u 1) wt (va_up tof u (upd (tof u) 0 (if (nI ac) = (0 : Int32) then (0 : Int32) else (-1000000 : Int32)))) (va_up ton u (upd (ton u) 0 (if (nI ac) = (0 : Int32) then (-1000000 : Int32) else (0 : Int32)))) w3 pa pb ps su ss sk))) (ov_up (14 + u) (show _ < 21 by omega) (seaL_tonset (by omega))) ?_
  have hv_s : isV (ov h sb (seaL sb con cst cpa car sc (va_up sz u 1) wt (va_up tof u (upd (tof u) 0 (if (nI ac) = (0 : Int32) then (0 : Int32) else (-1000000 : Int32)))) (va_up ton u (upd (ton u) 0 (if (nI ac) = (0 : Int32) then (-1000000 : Int32) else (0 : Int32)))) w3 pa pb ps su ss sk)) sb (seaL sb con cst cpa car sc (va_up sz u 1) wt (va_up tof u (upd (tof u) 0 (if (nI ac) = (0 : Int32) then (0 : Int32) else (-1000000 : Int32)))) (va_up ton u (upd (ton u) 0 (if (nI ac) = (0 : Int32) then (-1000000 : Int32) else (0 : Int32)))) w3 pa pb ps su ss sk) := ov_isV
  refine r_aload_n X 0 dX5_layOnlyState_43 rfl ?_
  refine r_iconst X (0 : Int32) dX5_layOnlyState_44 (by decide) ?_
  refine r_iload_n X 1 dX5_layOnlyState_45 rfl ?_
  refine cl_X5_150 X (by decide) dX5_layOnlyState_46 (Nat.le_of_ble_eq_true rfl) (hv_s 0 _ rfl) (c_Search_layCombos  (by first | assumption | omega)) ?_
  obtain ⟨q1, eq1⟩ : ∃ q, q = f_Search_layCombos sc ss sk 0 ac := ⟨_, rfl⟩
  rw [← eq1]
  rw [← eq1] at hf
  try dsimp only at hf
  have hv_s : isV (ov h sb (seaL sb con cst cpa car q1 (va_up sz u 1) wt (va_up tof u (upd (tof u) 0 (if (nI ac) = (0 : Int32) then (0 : Int32) else (-1000000 : Int32)))) (va_up ton u (upd (ton u) 0 (if (nI ac) = (0 : Int32) then (-1000000 : Int32) else (0 : Int32)))) w3 pa pb ps su ss sk)) sb (seaL sb con cst cpa car q1 (va_up sz u 1) wt (va_up tof u (upd (tof u) 0 (if (nI ac) = (0 : Int32) then (0 : Int32) else (-1000000 : Int32)))) (va_up ton u (upd (ton u) 0 (if (nI ac) = (0 : Int32) then (-1000000 : Int32) else (0 : Int32)))) w3 pa pb ps su ss sk) := ov_isV
  try subst hf
  exact r_return X Y dX5_layOnlyState_49 rfl rfl
