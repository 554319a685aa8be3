def f_Model_givesAlone (f : Nat → Int32) (u : Nat) (s : Int32) (hr : Int32) (p : Int64) : Int64 := if (f_Model_has s hr) = (0 : Int32) then (0 : Int64) else if ((f ((9 + (8 * u)) + 3)).toInt64) < p then (f_Model_roof f u (f_Model_starts s hr)).toInt64 else (f_Model_floor f u).toInt64
set_option maxRecDepth 20000 in
set_option maxHeartbeats 4000000 in
theorem c_Model_givesAlone {G : mG} {h : mHp} {w : Nat} {f : Nat → Int32} {u : Nat} {s : Int32} {hr : Int32} {p : Int64} (hv_w : isV h w (ar41 w f))  (hu : u < 4) : Ret G 2 mX8_givesAlone [.ref w, .int (nI u), .int s, .int hr, .long p] h (some (.long (f_Model_givesAlone f u s hr p))) h := by
  generalize hf : f_Model_givesAlone f u s hr p = R
  unfold f_Model_givesAlone at hf
  refine Ret.of [(0, .ref w), (1, .int (nI u)), (2, .int s), (3, .int hr), (4, .long p)] (by decide) (Nat.le_of_ble_eq_true rfl) rfl ?_
  rintro Z rfl X Y
  refine r_iload_n X 2 dX8_givesAlone_0 rfl ?_
  refine r_iload_n X 3 dX8_givesAlone_1 rfl ?_
  refine cl_X8_165 X (by decide) dX8_givesAlone_2 (Nat.le_of_ble_eq_true rfl) (c_Model_has  ) ?_
  refine m_join (P := SW Z 50 [] [.long (if (f_Model_has s hr) = (0 : Int32) then (0 : Int64) else if ((f ((9 + (8 * u)) + 3)).toInt64) < p then (f_Model_roof f u (f_Model_starts s hr)).toInt64 else (f_Model_floor f u).toInt64)] h) (fun K => ?_) ?_
  · refine r_if_ne X 12 dX8_givesAlone_5 rfl (fun c1 => ?_) (fun c1 => ?_)
    · skip
      refine r_aload_n X 0 dX8_givesAlone_12 rfl ?_
      refine r_bipush X (9 : Int32) dX8_givesAlone_13 (by decide) ?_
      refine r_bipush X (8 : Int32) dX8_givesAlone_15 (by decide) ?_
      refine r_iload_n X 1 dX8_givesAlone_17 rfl ?_
      refine r_imuln X (a := 8) (b := u) dX8_givesAlone_18 ?_
      refine r_iaddn X (a := 9) (b := 8 * u) dX8_givesAlone_19 ?_
      refine r_iconst X (3 : Int32) dX8_givesAlone_20 (by decide) ?_
      refine r_iaddn X (a := 9 + (8 * u)) (b := 3) dX8_givesAlone_21 ?_
      refine r_ialdn X (k0 := (9 + (8 * u)) + 3) dX8_givesAlone_22 (hv_w 0 _ rfl) (by omega) (by decide) ?_
      refine r_i2l X dX8_givesAlone_23 ?_
      refine r_lload X 4 dX8_givesAlone_24 rfl ?_
      refine m_join (P := SW Z 50 [] [.long (if ((f ((9 + (8 * u)) + 3)).toInt64) < p then (f_Model_roof f u (f_Model_starts s hr)).toInt64 else (f_Model_floor f u).toInt64)] h) (fun K => ?_) ?_
      · refine r_lcmp_ge X 44 dX8_givesAlone_26 dX8_givesAlone_27 rfl (fun c2 => ?_) (fun c2 => ?_)
        · skip
          refine r_aload_n X 0 dX8_givesAlone_44 rfl ?_
          refine r_iload_n X 1 dX8_givesAlone_45 rfl ?_
          refine cl_X8_172 X (by decide) dX8_givesAlone_46 (Nat.le_of_ble_eq_true rfl) (c_Model_floor (isV1 (hv_w 0 _ rfl)) (by first | assumption | omega)) ?_
          refine r_i2l X dX8_givesAlone_49 ?_
          refine SW.pick [] [] rfl ?_
          try simp only [if_neg c2] at K ⊢
          exact K
        · skip
          refine r_aload_n X 0 dX8_givesAlone_30 rfl ?_
          refine r_iload_n X 1 dX8_givesAlone_31 rfl ?_
          refine r_iload_n X 2 dX8_givesAlone_32 rfl ?_
          refine r_iload_n X 3 dX8_givesAlone_33 rfl ?_
          refine cl_X8_169 X (by decide) dX8_givesAlone_34 (Nat.le_of_ble_eq_true rfl) (c_Model_starts  ) ?_
          refine cl_X8_175 X (by decide) dX8_givesAlone_37 (Nat.le_of_ble_eq_true rfl) (c_Model_roof (isV1 (hv_w 0 _ rfl)) (by first | assumption | omega)) ?_
          refine r_i2l X dX8_givesAlone_40 ?_
          refine r_goto X 50 dX8_givesAlone_41 rfl ?_
          refine SW.pick [] [] rfl ?_
          try simp only [if_pos c2] at K ⊢
          exact K
      try simp only [if_neg c1] at K ⊢
      exact K
    · skip
      refine r_lconst X (0 : Int64) dX8_givesAlone_8 (by decide) ?_
      refine r_goto X 50 dX8_givesAlone_9 rfl ?_
      refine SW.pick [] [] rfl ?_
      try simp only [if_pos c1] at K ⊢
      exact K
  try subst hf
  exact r_lreturn X Y dX8_givesAlone_50 rfl rfl

def f_Model_goesAlone_L47s (W : Nat → Nat → Int32) (mpr : Nat → Int64) (wi : Nat) (n2 : Nat) (n4 : Nat) (k47 : Nat) (x5 : Int64) : Int64 := x5 + ((f_Model_givesAlone (W wi) n2 (nI n4) (nI k47) (mpr k47)) * ((((W wi) ((9 + (8 * n2)) + 3)).toInt64) - (mpr k47)))
def f_Model_goesAlone_L47 (W : Nat → Nat → Int32) (mpr : Nat → Int64) (wi : Nat) (n2 : Nat) (n4 : Nat) (x5 : Int64) : Nat → Int64
  | 0 => x5
  | k47 + 1 => f_Model_goesAlone_L47s W mpr wi n2 n4 k47 (f_Model_goesAlone_L47 W mpr wi n2 n4 x5 k47)
def f_Model_goesAlone_L5s (W : Nat → Nat → Int32) (mpr : Nat → Int64) (wi : Nat) (Hh : Nat) (n2 : Nat) (k5 : Nat) (x3 : Int32) (mlo : Int64) (mal : Int32) : Int32 × Int64 × Int32 := (if (f_Model_keeps (W wi) n2 (nI k5) Hh) = (0 : Int32) then x3 else ((fun q1 => if x3 = (0 : Int32) then if q1 < mlo then (0 : Int32) else x3 else (0 : Int32)) (f_Model_goesAlone_L47 W mpr wi n2 k5 (((f_Model_startCost (W wi) n2).toInt64) * ((f_Model_ones (f_Model_startsOf (nI k5) Hh)).toInt64)) Hh)), (if (f_Model_keeps (W wi) n2 (nI k5) Hh) = (0 : Int32) then mlo else ((fun q1 => (if x3 = (0 : Int32) then (if q1 < mlo then q1 else mlo) else q1)) (f_Model_goesAlone_L47 W mpr wi n2 k5 (((f_Model_startCost (W wi) n2).toInt64) * ((f_Model_ones (f_Model_startsOf (nI k5) Hh)).toInt64)) Hh))), (if (f_Model_keeps (W wi) n2 (nI k5) Hh) = (0 : Int32) then mal else ((fun q1 => (if x3 = (0 : Int32) then (if q1 < mlo then nI k5 else mal) else nI k5)) (f_Model_goesAlone_L47 W mpr wi n2 k5 (((f_Model_startCost (W wi) n2).toInt64) * ((f_Model_ones (f_Model_startsOf (nI k5) Hh)).toInt64)) Hh))))
def f_Model_goesAlone_L5 (W : Nat → Nat → Int32) (mpr : Nat → Int64) (wi : Nat) (Hh : Nat) (n2 : Nat) (x3 : Int32) (mlo : Int64) (mal : Int32) : Nat → Int32 × Int64 × Int32
  | 0 => (x3, mlo, mal)
  | k5 + 1 => f_Model_goesAlone_L5s W mpr wi Hh n2 k5 ((f_Model_goesAlone_L5 W mpr wi Hh n2 x3 mlo mal k5).1) ((f_Model_goesAlone_L5 W mpr wi Hh n2 x3 mlo mal k5).2.1) ((f_Model_goesAlone_L5 W mpr wi Hh n2 x3 mlo mal k5).2.2)
def f_Model_goesAlone (W : Nat → Nat → Int32) (mlo : Int64) (mal : Int32) (mpr : Nat → Int64) (u : Nat) (wi : Nat) (Hh : Nat) : Int64 × Int32 := ((fun q3 => (q3.2.1, q3.2.2)) (f_Model_goesAlone_L5 W mpr wi Hh u (1 : Int32) mlo mal (2 ^ Hh)))
set_option maxRecDepth 20000 in
set_option maxHeartbeats 4000000 in
theorem c_Model_goesAlone {G : mG} {h : mHp} {b : Nat} {lane : Nat → Int32} {many : Nat → Nat} {items : Nat → Int32} {spare : Nat → Int32} {stat : Int32} {tape : Nat → Int32} {taped : Nat} {fk : Int32} {fp : Int32} {mat : Nat} {mst : Nat} {tok : Int32} {mval : Int32} {W : Nat → Nat → Int32} {past : Nat → Int32} {nac : Nat} {imgs : Nat → Int32} {kept : Nat → Int32} {gvn : Nat → Int32} {costs : Nat → Int32} {lst : Nat → Int32} {sets : Nat → Int32} {bst : Int32} {mlo : Int64} {mal : Int32} {mpr : Nat → Int64} {lak : Nat → Int64} {trc : Nat → Int32} {ntr : Nat} {u : Nat} {wi : Nat} {Hh : Nat}   (hwi : wi < 3) (hu : u < 4) (h1 : W wi 1 = nI Hh) (hH : Hh ≤ 6) : Ret G 3 mX8_goesAlone [.ref b, .ref (b + (6 + wi)), .int (nI u)] (ov h b (modL b lane many items spare stat tape taped fk fp mat mst tok mval W past nac imgs kept gvn costs lst sets bst mlo mal mpr lak trc ntr)) none (ov h b (modL b lane many items spare stat tape taped fk fp mat mst tok mval W past nac imgs kept gvn costs lst sets bst (f_Model_goesAlone W mlo mal mpr u wi Hh).1 (f_Model_goesAlone W mlo mal mpr u wi Hh).2 mpr lak trc ntr)) := by
  generalize hf : f_Model_goesAlone W mlo mal mpr u wi Hh = R
  unfold f_Model_goesAlone at hf
  refine Ret.of [(0, .ref b), (1, .ref (b + (6 + wi))), (2, .int (nI u))] (by decide) (Nat.le_of_ble_eq_true rfl) rfl ?_
  rintro Z rfl X Y
  have hv_b : isV (ov h b (modL b lane many items spare stat tape taped fk fp mat mst tok mval W past nac imgs kept gvn costs lst sets bst mlo mal mpr lak trc ntr)) b (modL b lane many items spare stat tape taped fk fp mat mst tok mval W past nac imgs kept gvn costs lst sets bst mlo mal mpr lak trc ntr) := ov_isV
  have h64 := pow64 hH
  refine r_iconst X (1 : Int32) dX8_goesAlone_0 (by decide) ?_
  refine r_istore_n [(0, .ref b), (1, .ref (b + (6 + wi))), (2, .int (nI u)), (3, .int (1 : Int32))] X dX8_goesAlone_1 rfl (by decide) rfl ?_
  refine r_iconst X (0 : Int32) dX8_goesAlone_2 (by decide) ?_
  refine r_istore [(0, .ref b), (1, .ref (b + (6 + wi))), (2, .int (nI u)), (3, .int (1 : Int32)), (4, .int (0 : Int32))] X dX8_goesAlone_3 (by decide) rfl ?_
  refine loop_up (P := fun k5 => SW Z 5 [(0, .ref b), (1, .ref (b + (6 + wi))), (2, .int (nI u)), (3, .int ((f_Model_goesAlone_L5 W mpr wi Hh u (1 : Int32) mlo mal k5).1)), (4, .int (nI k5))] [] (ov h b (modL b lane many items spare stat tape taped fk fp mat mst tok mval W past nac imgs kept gvn costs lst sets bst ((f_Model_goesAlone_L5 W mpr wi Hh u (1 : Int32) mlo mal k5).2.1) ((f_Model_goesAlone_L5 W mpr wi Hh u (1 : Int32) mlo mal k5).2.2) mpr lak trc ntr))) (2 ^ Hh) ?_ ?_ 0 (Nat.zero_le _)
  rotate_left
  · intro k5 hk5 ih
    have hv_b : isV (ov h b (modL b lane many items spare stat tape taped fk fp mat mst tok mval W past nac imgs kept gvn costs lst sets bst ((f_Model_goesAlone_L5 W mpr wi Hh u (1 : Int32) mlo mal k5).2.1) ((f_Model_goesAlone_L5 W mpr wi Hh u (1 : Int32) mlo mal k5).2.2) mpr lak trc ntr)) b (modL b lane many items spare stat tape taped fk fp mat mst tok mval W past nac imgs kept gvn costs lst sets bst ((f_Model_goesAlone_L5 W mpr wi Hh u (1 : Int32) mlo mal k5).2.1) ((f_Model_goesAlone_L5 W mpr wi Hh u (1 : Int32) mlo mal k5).2.2) mpr lak trc ntr) := ov_isV
    refine r_iload X 4 dX8_goesAlone_5 rfl ?_
    refine r_iconst X (1 : Int32) dX8_goesAlone_7 (by decide) ?_
    refine r_aload_n X 1 dX8_goesAlone_8 rfl ?_
    refine r_iconst X (1 : Int32) dX8_goesAlone_9 (by decide) ?_
    refine r_ialdv X (v := nI Hh) (k0 := 1) dX8_goesAlone_10 (hv_b (6 + wi) _ (modL_W (by omega))) (by omega) (by decide) h1 ?_
    refine r_ishl1n X (k0 := Hh) dX8_goesAlone_11 (by omega) ?_
    refine r_icmp_ge X 137 dX8_goesAlone_12 rfl (fun z => absurd (nI_lt (a := k5) (b := 2 ^ Hh) (by omega) (by omega)) z) (fun _ => ?_)
    refine r_aload_n X 1 dX8_goesAlone_15 rfl ?_
    refine r_iload_n X 2 dX8_goesAlone_16 rfl ?_
    refine r_iload X 4 dX8_goesAlone_17 rfl ?_
    refine cl_X8_242 X (by decide) dX8_goesAlone_19 (Nat.le_of_ble_eq_true rfl) (c_Model_keeps (isV1 (hv_b (6 + wi) _ (modL_W (by omega)))) (by first | assumption | omega) (by first | assumption | omega) (by first | assumption | omega)) ?_
    refine m_join (P := SW Z 131 [(0, .ref b), (1, .ref (b + (6 + wi))), (2, .int (nI u)), (3, .int (if (f_Model_keeps (W wi) u (nI k5) Hh) = (0 : Int32) then (f_Model_goesAlone_L5 W mpr wi Hh u (1 : Int32) mlo mal k5).1 else ((fun q2 => if ((f_Model_goesAlone_L5 W mpr wi Hh u (1 : Int32) mlo mal k5).1) = (0 : Int32) then if q2 < ((f_Model_goesAlone_L5 W mpr wi Hh u (1 : Int32) mlo mal k5).2.1) then (0 : Int32) else (f_Model_goesAlone_L5 W mpr wi Hh u (1 : Int32) mlo mal k5).1 else (0 : Int32)) (f_Model_goesAlone_L47 W mpr wi u k5 (((f_Model_startCost (W wi) u).toInt64) * ((f_Model_ones (f_Model_startsOf (nI k5) Hh)).toInt64)) Hh)))), (4, .int (nI k5))] [] (ov h b (modL b lane many items spare stat tape taped fk fp mat mst tok mval W past nac imgs kept gvn costs lst sets bst (if (f_Model_keeps (W wi) u (nI k5) Hh) = (0 : Int32) then (f_Model_goesAlone_L5 W mpr wi Hh u (1 : Int32) mlo mal k5).2.1 else ((fun q2 => (if ((f_Model_goesAlone_L5 W mpr wi Hh u (1 : Int32) mlo mal k5).1) = (0 : Int32) then (if q2 < ((f_Model_goesAlone_L5 W mpr wi Hh u (1 : Int32) mlo mal k5).2.1) then q2 else (f_Model_goesAlone_L5 W mpr wi Hh u (1 : Int32) mlo mal k5).2.1) else q2)) (f_Model_goesAlone_L47 W mpr wi u k5 (((f_Model_startCost (W wi) u).toInt64) * ((f_Model_ones (f_Model_startsOf (nI k5) Hh)).toInt64)) Hh))) (if (f_Model_keeps (W wi) u (nI k5) Hh) = (0 : Int32) then (f_Model_goesAlone_L5 W mpr wi Hh u (1 : Int32) mlo mal k5).2.2 else ((fun q2 => (if ((f_Model_goesAlone_L5 W mpr wi Hh u (1 : Int32) mlo mal k5).1) = (0 : Int32) then (if q2 < ((f_Model_goesAlone_L5 W mpr wi Hh u (1 : Int32) mlo mal k5).2.1) then nI k5 else (f_Model_goesAlone_L5 W mpr wi Hh u (1 : Int32) mlo mal k5).2.2) else nI k5)) (f_Model_goesAlone_L47 W mpr wi u k5 (((f_Model_startCost (W wi) u).toInt64) * ((f_Model_ones (f_Model_startsOf (nI k5) Hh)).toInt64)) Hh))) mpr lak trc ntr))) (fun K => ?_) ?_
    · refine r_if_eq X 131 dX8_goesAlone_22 rfl (fun c6 => ?_) (fun c6 => ?_)
      · skip
        try simp only [if_pos c6] at K ⊢
        exact K
      · skip
        refine r_aload_n X 1 dX8_goesAlone_25 rfl ?_
        refine r_iload_n X 2 dX8_goesAlone_26 rfl ?_
        refine cl_X8_183 X (by decide) dX8_goesAlone_27 (Nat.le_of_ble_eq_true rfl) (c_Model_startCost (isV1 (hv_b (6 + wi) _ (modL_W (by omega)))) (by first | assumption | omega)) ?_
        refine r_i2l X dX8_goesAlone_30 ?_
        refine r_aload_n X 1 dX8_goesAlone_31 rfl ?_
        refine r_iload X 4 dX8_goesAlone_32 rfl ?_
        refine cl_X8_239 X (by decide) dX8_goesAlone_34 (Nat.le_of_ble_eq_true rfl) (c_Model_startsOf (isV1 (hv_b (6 + wi) _ (modL_W (by omega)))) (by first | assumption | omega) (by first | assumption | omega)) ?_
        refine cl_X8_256 X (by decide) dX8_goesAlone_37 (Nat.le_of_ble_eq_true rfl) (c_Model_ones  ) ?_
        refine r_i2l X dX8_goesAlone_40 ?_
        refine r_lmul X dX8_goesAlone_41 ?_
        refine r_lstore [(0, .ref b), (1, .ref (b + (6 + wi))), (2, .int (nI u)), (3, .int ((f_Model_goesAlone_L5 W mpr wi Hh u (1 : Int32) mlo mal k5).1)), (4, .int (nI k5)), (5, .long (((f_Model_startCost (W wi) u).toInt64) * ((f_Model_ones (f_Model_startsOf (nI k5) Hh)).toInt64)))] X dX8_goesAlone_42 (by decide) rfl ?_
        refine r_iconst X (0 : Int32) dX8_goesAlone_44 (by decide) ?_
        refine r_istore [(0, .ref b), (1, .ref (b + (6 + wi))), (2, .int (nI u)), (3, .int ((f_Model_goesAlone_L5 W mpr wi Hh u (1 : Int32) mlo mal k5).1)), (4, .int (nI k5)), (5, .long (((f_Model_startCost (W wi) u).toInt64) * ((f_Model_ones (f_Model_startsOf (nI k5) Hh)).toInt64))), (7, .int (0 : Int32))] X dX8_goesAlone_45 (by decide) rfl ?_
        refine loop_up (P := fun k7 => SW Z 47 [(0, .ref b), (1, .ref (b + (6 + wi))), (2, .int (nI u)), (3, .int ((f_Model_goesAlone_L5 W mpr wi Hh u (1 : Int32) mlo mal k5).1)), (4, .int (nI k5)), (5, .long (f_Model_goesAlone_L47 W mpr wi u k5 (((f_Model_startCost (W wi) u).toInt64) * ((f_Model_ones (f_Model_startsOf (nI k5) Hh)).toInt64)) k7)), (7, .int (nI k7))] [] (ov h b (modL b lane many items spare stat tape taped fk fp mat mst tok mval W past nac imgs kept gvn costs lst sets bst ((f_Model_goesAlone_L5 W mpr wi Hh u (1 : Int32) mlo mal k5).2.1) ((f_Model_goesAlone_L5 W mpr wi Hh u (1 : Int32) mlo mal k5).2.2) mpr lak trc ntr))) Hh ?_ ?_ 0 (Nat.zero_le _)
        rotate_left
        · intro k7 hk7 ih
          have hv_b : isV (ov h b (modL b lane many items spare stat tape taped fk fp mat mst tok mval W past nac imgs kept gvn costs lst sets bst ((f_Model_goesAlone_L5 W mpr wi Hh u (1 : Int32) mlo mal k5).2.1) ((f_Model_goesAlone_L5 W mpr wi Hh u (1 : Int32) mlo mal k5).2.2) mpr lak trc ntr)) b (modL b lane many items spare stat tape taped fk fp mat mst tok mval W past nac imgs kept gvn costs lst sets bst ((f_Model_goesAlone_L5 W mpr wi Hh u (1 : Int32) mlo mal k5).2.1) ((f_Model_goesAlone_L5 W mpr wi Hh u (1 : Int32) mlo mal k5).2.2) mpr lak trc ntr) := ov_isV
          refine r_iload X 6 dX8_goesAlone_47 rfl ?_
          refine r_aload_n X 1 dX8_goesAlone_49 rfl ?_
          refine r_iconst X (1 : Int32) dX8_goesAlone_50 (by decide) ?_
          refine r_ialdv X (v := nI Hh) (k0 := 1) dX8_goesAlone_51 (hv_b (6 + wi) _ (modL_W (by omega))) (by omega) (by decide) h1 ?_
          refine r_icmp_ge X 103 dX8_goesAlone_52 rfl (fun z => absurd (nI_lt (a := k7) (b := Hh) (by omega) (by omega)) z) (fun _ => ?_)
          refine r_lload X 5 dX8_goesAlone_55 rfl ?_
          refine r_aload_n X 1 dX8_goesAlone_57 rfl ?_
          refine r_iload_n X 2 dX8_goesAlone_58 rfl ?_
          refine r_iload X 4 dX8_goesAlone_59 rfl ?_
          refine r_iload X 6 dX8_goesAlone_61 rfl ?_
          refine r_aload_n X 0 dX8_goesAlone_63 rfl ?_
          refine gf_X8_56 X dX8_goesAlone_64 (hv_b 0 _ rfl) rfl ?_
          refine r_iload X 6 dX8_goesAlone_67 rfl ?_
          refine r_laldn X (k0 := k7) dX8_goesAlone_69 (hv_b 16 _ rfl) (by omega) (by decide) ?_
          refine cl_X8_259 X (by decide) dX8_goesAlone_70 (Nat.le_of_ble_eq_true rfl) (c_Model_givesAlone (isV1 (hv_b (6 + wi) _ (modL_W (by omega)))) (by first | assumption | omega)) ?_
          refine r_aload_n X 1 dX8_goesAlone_73 rfl ?_
          refine r_bipush X (9 : Int32) dX8_goesAlone_74 (by decide) ?_
          refine r_bipush X (8 : Int32) dX8_goesAlone_76 (by decide) ?_
          refine r_iload_n X 2 dX8_goesAlone_78 rfl ?_
          refine r_imuln X (a := 8) (b := u) dX8_goesAlone_79 ?_
          refine r_iaddn X (a := 9) (b := 8 * u) dX8_goesAlone_80 ?_
          refine r_iconst X (3 : Int32) dX8_goesAlone_81 (by decide) ?_
          refine r_iaddn X (a := 9 + (8 * u)) (b := 3) dX8_goesAlone_82 ?_
          refine r_ialdn X (k0 := (9 + (8 * u)) + 3) dX8_goesAlone_83 (hv_b (6 + wi) _ (modL_W (by omega))) (by omega) (by decide) ?_
          refine r_i2l X dX8_goesAlone_84 ?_
          refine r_aload_n X 0 dX8_goesAlone_85 rfl ?_
          refine gf_X8_56 X dX8_goesAlone_86 (hv_b 0 _ rfl) rfl ?_
          refine r_iload X 6 dX8_goesAlone_89 rfl ?_
          refine r_laldn X (k0 := k7) dX8_goesAlone_91 (hv_b 16 _ rfl) (by omega) (by decide) ?_
          refine r_lsub X dX8_goesAlone_92 ?_
          refine r_lmul X dX8_goesAlone_93 ?_
          refine r_ladd X dX8_goesAlone_94 ?_
          refine r_lstore [(0, .ref b), (1, .ref (b + (6 + wi))), (2, .int (nI u)), (3, .int ((f_Model_goesAlone_L5 W mpr wi Hh u (1 : Int32) mlo mal k5).1)), (4, .int (nI k5)), (5, .long ((f_Model_goesAlone_L47 W mpr wi u k5 (((f_Model_startCost (W wi) u).toInt64) * ((f_Model_ones (f_Model_startsOf (nI k5) Hh)).toInt64)) k7) + ((f_Model_givesAlone (W wi) u (nI k5) (nI k7) (mpr k7)) * ((((W wi) ((9 + (8 * u)) + 3)).toInt64) - (mpr k7))))), (7, .int (nI k7))] X dX8_goesAlone_95 (by decide) rfl ?_
          refine r_iinc [(0, .ref b), (1, .ref (b + (6 + wi))), (2, .int (nI u)), (3, .int ((f_Model_goesAlone_L5 W mpr wi Hh u (1 : Int32) mlo mal k5).1)), (4, .int (nI k5)), (5, .long ((f_Model_goesAlone_L47 W mpr wi u k5 (((f_Model_startCost (W wi) u).toInt64) * ((f_Model_ones (f_Model_startsOf (nI k5) Hh)).toInt64)) k7) + ((f_Model_givesAlone (W wi) u (nI k5) (nI k7) (mpr k7)) * ((((W wi) ((9 + (8 * u)) + 3)).toInt64) - (mpr k7))))), (7, .int (nI (k7 + 1)))] X (nI (k7 + 1)) 6 dX8_goesAlone_97 rfl (nI_succ _).symm (by decide) rfl ?_
          refine r_goto X 47 dX8_goesAlone_100 rfl ?_
          exact ih
        obtain ⟨q2, eq2⟩ : ∃ q, q = f_Model_goesAlone_L47 W mpr wi u k5 (((f_Model_startCost (W wi) u).toInt64) * ((f_Model_ones (f_Model_startsOf (nI k5) Hh)).toInt64)) Hh := ⟨_, rfl⟩
        rw [← eq2]
        have hv_b : isV (ov h b (modL b lane many items spare stat tape taped fk fp mat mst tok mval W past nac imgs kept gvn costs lst sets bst ((f_Model_goesAlone_L5 W mpr wi Hh u (1 : Int32) mlo mal k5).2.1) ((f_Model_goesAlone_L5 W mpr wi Hh u (1 : Int32) mlo mal k5).2.2) mpr lak trc ntr)) b (modL b lane many items spare stat tape taped fk fp mat mst tok mval W past nac imgs kept gvn costs lst sets bst ((f_Model_goesAlone_L5 W mpr wi Hh u (1 : Int32) mlo mal k5).2.1) ((f_Model_goesAlone_L5 W mpr wi Hh u (1 : Int32) mlo mal k5).2.2) mpr lak trc ntr) := ov_isV
        refine r_iload X 6 dX8_goesAlone_47 rfl ?_
        refine r_aload_n X 1 dX8_goesAlone_49 rfl ?_
        refine r_iconst X (1 : Int32) dX8_goesAlone_50 (by decide) ?_
        refine r_ialdv X (v := nI Hh) (k0 := 1) dX8_goesAlone_51 (hv_b (6 + wi) _ (modL_W (by omega))) (by omega) (by decide) h1 ?_
        refine r_icmp_ge X 103 dX8_goesAlone_52 rfl (fun _ => ?_) (fun z => absurd z (nI_nlt (a := Hh) (b := Hh) (by omega) (by omega)))
        refine r_iload_n X 3 dX8_goesAlone_103 rfl ?_
        refine m_join (P := SW Z 131 [(0, .ref b), (1, .ref (b + (6 + wi))), (2, .int (nI u)), (3, .int (if ((f_Model_goesAlone_L5 W mpr wi Hh u (1 : Int32) mlo mal k5).1) = (0 : Int32) then if q2 < ((f_Model_goesAlone_L5 W mpr wi Hh u (1 : Int32) mlo mal k5).2.1) then (0 : Int32) else (f_Model_goesAlone_L5 W mpr wi Hh u (1 : Int32) mlo mal k5).1 else (0 : Int32))), (4, .int (nI k5))] [] (ov h b (modL b lane many items spare stat tape taped fk fp mat mst tok mval W past nac imgs kept gvn costs lst sets bst (if ((f_Model_goesAlone_L5 W mpr wi Hh u (1 : Int32) mlo mal k5).1) = (0 : Int32) then (if q2 < ((f_Model_goesAlone_L5 W mpr wi Hh u (1 : Int32) mlo mal k5).2.1) then q2 else (f_Model_goesAlone_L5 W mpr wi Hh u (1 : Int32) mlo mal k5).2.1) else q2) (if ((f_Model_goesAlone_L5 W mpr wi Hh u (1 : Int32) mlo mal k5).1) = (0 : Int32) then (if q2 < ((f_Model_goesAlone_L5 W mpr wi Hh u (1 : Int32) mlo mal k5).2.1) then nI k5 else (f_Model_goesAlone_L5 W mpr wi Hh u (1 : Int32) mlo mal k5).2.2) else nI k5) mpr lak trc ntr))) (fun K => ?_) ?_
        · refine r_if_ne X 117 dX8_goesAlone_104 rfl (fun c8 => ?_) (fun c8 => ?_)
          · skip
            refine r_aload_n X 0 dX8_goesAlone_117 rfl ?_
            refine r_lload X 5 dX8_goesAlone_118 rfl ?_
            refine pf_X8_263 X dX8_goesAlone_120 (hv_b 0 _ rfl) (Nat.le_of_ble_eq_true rfl) ?_
            refine SW.heq (h2 := (ov h b (modL b lane many items spare stat tape taped fk fp mat mst tok mval W past nac imgs kept gvn costs lst sets bst q2 ((f_Model_goesAlone_L5 W mpr wi Hh u (1 : Int32) mlo mal k5).2.2) mpr lak trc ntr))) (ov_up 0 (Nat.le_of_ble_eq_true rfl) rfl) ?_
            have hv_b : isV (ov h b (modL b lane many items spare stat tape taped fk fp mat mst tok mval W past nac imgs kept gvn costs lst sets bst q2 ((f_Model_goesAlone_L5 W mpr wi Hh u (1 : Int32) mlo mal k5).2.2) mpr lak trc ntr)) b (modL b lane many items spare stat tape taped fk fp mat mst tok mval W past nac imgs kept gvn costs lst sets bst q2 ((f_Model_goesAlone_L5 W mpr wi Hh u (1 : Int32) mlo mal k5).2.2) mpr lak trc ntr) := ov_isV
            refine r_aload_n X 0 dX8_goesAlone_123 rfl ?_
            refine r_iload X 4 dX8_goesAlone_124 rfl ?_
            refine pf_X8_267 X dX8_goesAlone_126 (hv_b 0 _ rfl) (Nat.le_of_ble_eq_true rfl) ?_
            refine SW.heq (h2 := (ov h b (modL b lane many items spare stat tape taped fk fp mat mst tok mval W past nac imgs kept gvn costs lst sets bst q2 (nI k5) mpr lak trc ntr))) (ov_up 0 (Nat.le_of_ble_eq_true rfl) rfl) ?_
            have hv_b : isV (ov h b (modL b lane many items spare stat tape taped fk fp mat mst tok mval W past nac imgs kept gvn costs lst sets bst q2 (nI k5) mpr lak trc ntr)) b (modL b lane many items spare stat tape taped fk fp mat mst tok mval W past nac imgs kept gvn costs lst sets bst q2 (nI k5) mpr lak trc ntr) := ov_isV
            refine r_iconst X (0 : Int32) dX8_goesAlone_129 (by decide) ?_
            refine r_istore_n [(0, .ref b), (1, .ref (b + (6 + wi))), (2, .int (nI u)), (3, .int (0 : Int32)), (4, .int (nI k5)), (5, .long q2), (7, .int (nI Hh))] X dX8_goesAlone_130 rfl (by decide) rfl ?_
            refine SW.pick [0, 1, 2, 3, 4] [(0, .ref b), (1, .ref (b + (6 + wi))), (2, .int (nI u)), (3, .int (0 : Int32)), (4, .int (nI k5))] rfl ?_
            try simp only [if_neg c8] at K ⊢
            exact K
          · skip
            refine r_lload X 5 dX8_goesAlone_107 rfl ?_
            refine r_aload_n X 0 dX8_goesAlone_109 rfl ?_
            refine gf_X8_263 X dX8_goesAlone_110 (hv_b 0 _ rfl) rfl ?_
            refine m_join (P := SW Z 131 [(0, .ref b), (1, .ref (b + (6 + wi))), (2, .int (nI u)), (3, .int (if q2 < ((f_Model_goesAlone_L5 W mpr wi Hh u (1 : Int32) mlo mal k5).2.1) then (0 : Int32) else (f_Model_goesAlone_L5 W mpr wi Hh u (1 : Int32) mlo mal k5).1)), (4, .int (nI k5))] [] (ov h b (modL b lane many items spare stat tape taped fk fp mat mst tok mval W past nac imgs kept gvn costs lst sets bst (if q2 < ((f_Model_goesAlone_L5 W mpr wi Hh u (1 : Int32) mlo mal k5).2.1) then q2 else (f_Model_goesAlone_L5 W mpr wi Hh u (1 : Int32) mlo mal k5).2.1) (if q2 < ((f_Model_goesAlone_L5 W mpr wi Hh u (1 : Int32) mlo mal k5).2.1) then nI k5 else (f_Model_goesAlone_L5 W mpr wi Hh u (1 : Int32) mlo mal k5).2.2) mpr lak trc ntr))) (fun K => ?_) ?_
            · refine r_lcmp_ge X 131 dX8_goesAlone_113 dX8_goesAlone_114 rfl (fun c9 => ?_) (fun c9 => ?_)
              · skip
                refine SW.pick [0, 1, 2, 3, 4] [(0, .ref b), (1, .ref (b + (6 + wi))), (2, .int (nI u)), (3, .int ((f_Model_goesAlone_L5 W mpr wi Hh u (1 : Int32) mlo mal k5).1)), (4, .int (nI k5))] rfl ?_
                try simp only [if_neg c9] at K ⊢
                exact K
              · skip
                refine r_aload_n X 0 dX8_goesAlone_117 rfl ?_
                refine r_lload X 5 dX8_goesAlone_118 rfl ?_
                refine pf_X8_263 X dX8_goesAlone_120 (hv_b 0 _ rfl) (Nat.le_of_ble_eq_true rfl) ?_
                refine SW.heq (h2 := (ov h b (modL b lane many items spare stat tape taped fk fp mat mst tok mval W past nac imgs kept gvn costs lst sets bst q2 ((f_Model_goesAlone_L5 W mpr wi Hh u (1 : Int32) mlo mal k5).2.2) mpr lak trc ntr))) (ov_up 0 (Nat.le_of_ble_eq_true rfl) rfl) ?_
                have hv_b : isV (ov h b (modL b lane many items spare stat tape taped fk fp mat mst tok mval W past nac imgs kept gvn costs lst sets bst q2 ((f_Model_goesAlone_L5 W mpr wi Hh u (1 : Int32) mlo mal k5).2.2) mpr lak trc ntr)) b (modL b lane many items spare stat tape taped fk fp mat mst tok mval W past nac imgs kept gvn costs lst sets bst q2 ((f_Model_goesAlone_L5 W mpr wi Hh u (1 : Int32) mlo mal k5).2.2) mpr lak trc ntr) := ov_isV
                refine r_aload_n X 0 dX8_goesAlone_123 rfl ?_
                refine r_iload X 4 dX8_goesAlone_124 rfl ?_
                refine pf_X8_267 X dX8_goesAlone_126 (hv_b 0 _ rfl) (Nat.le_of_ble_eq_true rfl) ?_
                refine SW.heq (h2 := (ov h b (modL b lane many items spare stat tape taped fk fp mat mst tok mval W past nac imgs kept gvn costs lst sets bst q2 (nI k5) mpr lak trc ntr))) (ov_up 0 (Nat.le_of_ble_eq_true rfl) rfl) ?_
                have hv_b : isV (ov h b (modL b lane many items spare stat tape taped fk fp mat mst tok mval W past nac imgs kept gvn costs lst sets bst q2 (nI k5) mpr lak trc ntr)) b (modL b lane many items spare stat tape taped fk fp mat mst tok mval W past nac imgs kept gvn costs lst sets bst q2 (nI k5) mpr lak trc ntr) := ov_isV
                refine r_iconst X (0 : Int32) dX8_goesAlone_129 (by decide) ?_
                refine r_istore_n [(0, .ref b), (1, .ref (b + (6 + wi))), (2, .int (nI u)), (3, .int (0 : Int32)), (4, .int (nI k5)), (5, .long q2), (7, .int (nI Hh))] X dX8_goesAlone_130 rfl (by decide) rfl ?_
                refine SW.pick [0, 1, 2, 3, 4] [(0, .ref b), (1, .ref (b + (6 + wi))), (2, .int (nI u)), (3, .int (0 : Int32)), (4, .int (nI k5))] rfl ?_
                try simp only [if_pos c9] at K ⊢
                exact K
            have hv_b : isV (ov h b (modL b lane many items spare stat tape taped fk fp mat mst tok mval W past nac imgs kept gvn costs lst sets bst (if q2 < ((f_Model_goesAlone_L5 W mpr wi Hh u (1 : Int32) mlo mal k5).2.1) then q2 else (f_Model_goesAlone_L5 W mpr wi Hh u (1 : Int32) mlo mal k5).2.1) (if q2 < ((f_Model_goesAlone_L5 W mpr wi Hh u (1 : Int32) mlo mal k5).2.1) then nI k5 else (f_Model_goesAlone_L5 W mpr wi Hh u (1 : Int32) mlo mal k5).2.2) mpr lak trc ntr)) b (modL b lane many items spare stat tape taped fk fp mat mst tok mval W past nac imgs kept gvn costs lst sets bst (if q2 < ((f_Model_goesAlone_L5 W mpr wi Hh u (1 : Int32) mlo mal k5).2.1) then q2 else (f_Model_goesAlone_L5 W mpr wi Hh u (1 : Int32) mlo mal k5).2.1) (if q2 < ((f_Model_goesAlone_L5 W mpr wi Hh u (1 : Int32) mlo mal k5).2.1) then nI k5 else (f_Model_goesAlone_L5 W mpr wi Hh u (1 : Int32) mlo mal k5).2.2) mpr lak trc ntr) := ov_isV
            try simp only [if_pos c8] at K ⊢
            exact K
        have hv_b : isV (ov h b (modL b lane many items spare stat tape taped fk fp mat mst tok mval W past nac imgs kept gvn costs lst sets bst (if ((f_Model_goesAlone_L5 W mpr wi Hh u (1 : Int32) mlo mal k5).1) = (0 : Int32) then (if q2 < ((f_Model_goesAlone_L5 W mpr wi Hh u (1 : Int32) mlo mal k5).2.1) then q2 else (f_Model_goesAlone_L5 W mpr wi Hh u (1 : Int32) mlo mal k5).2.1) else q2) (if ((f_Model_goesAlone_L5 W mpr wi Hh u (1 : Int32) mlo mal k5).1) = (0 : Int32) then (if q2 < ((f_Model_goesAlone_L5 W mpr wi Hh u (1 : Int32) mlo mal k5).2.1) then nI k5 else (f_Model_goesAlone_L5 W mpr wi Hh u (1 : Int32) mlo mal k5).2.2) else nI k5) mpr lak trc ntr)) b (modL b lane many items spare stat tape taped fk fp mat mst tok mval W past nac imgs kept gvn costs lst sets bst (if ((f_Model_goesAlone_L5 W mpr wi Hh u (1 : Int32) mlo mal k5).1) = (0 : Int32) then (if q2 < ((f_Model_goesAlone_L5 W mpr wi Hh u (1 : Int32) mlo mal k5).2.1) then q2 else (f_Model_goesAlone_L5 W mpr wi Hh u (1 : Int32) mlo mal k5).2.1) else q2) (if ((f_Model_goesAlone_L5 W mpr wi Hh u (1 : Int32) mlo mal k5).1) = (0 : Int32) then (if q2 < ((f_Model_goesAlone_L5 W mpr wi Hh u (1 : Int32) mlo mal k5).2.1) then nI k5 else (f_Model_goesAlone_L5 W mpr wi Hh u (1 : Int32) mlo mal k5).2.2) else nI k5) mpr lak trc ntr) := ov_isV
        subst eq2
        try simp only [if_neg c6] at K ⊢
        exact K
    have hv_b : isV (ov h b (modL b lane many items spare stat tape taped fk fp mat mst tok mval W past nac imgs kept gvn costs lst sets bst (if (f_Model_keeps (W wi) u (nI k5) Hh) = (0 : Int32) then (f_Model_goesAlone_L5 W mpr wi Hh u (1 : Int32) mlo mal k5).2.1 else ((fun q2 => (if ((f_Model_goesAlone_L5 W mpr wi Hh u (1 : Int32) mlo mal k5).1) = (0 : Int32) then (if q2 < ((f_Model_goesAlone_L5 W mpr wi Hh u (1 : Int32) mlo mal k5).2.1) then q2 else (f_Model_goesAlone_L5 W mpr wi Hh u (1 : Int32) mlo mal k5).2.1) else q2)) (f_Model_goesAlone_L47 W mpr wi u k5 (((f_Model_startCost (W wi) u).toInt64) * ((f_Model_ones (f_Model_startsOf (nI k5) Hh)).toInt64)) Hh))) (if (f_Model_keeps (W wi) u (nI k5) Hh) = (0 : Int32) then (f_Model_goesAlone_L5 W mpr wi Hh u (1 : Int32) mlo mal k5).2.2 else ((fun q2 => (if ((f_Model_goesAlone_L5 W mpr wi Hh u (1 : Int32) mlo mal k5).1) = (0 : Int32) then (if q2 < ((f_Model_goesAlone_L5 W mpr wi Hh u (1 : Int32) mlo mal k5).2.1) then nI k5 else (f_Model_goesAlone_L5 W mpr wi Hh u (1 : Int32) mlo mal k5).2.2) else nI k5)) (f_Model_goesAlone_L47 W mpr wi u k5 (((f_Model_startCost (W wi) u).toInt64) * ((f_Model_ones (f_Model_startsOf (nI k5) Hh)).toInt64)) Hh))) mpr lak trc ntr)) b (modL b lane many items spare stat tape taped fk fp mat mst tok mval W past nac imgs kept gvn costs lst sets bst (if (f_Model_keeps (W wi) u (nI k5) Hh) = (0 : Int32) then (f_Model_goesAlone_L5 W mpr wi Hh u (1 : Int32) mlo mal k5).2.1 else ((fun q2 => (if ((f_Model_goesAlone_L5 W mpr wi Hh u (1 : Int32) mlo mal k5).1) = (0 : Int32) then (if q2 < ((f_Model_goesAlone_L5 W mpr wi Hh u (1 : Int32) mlo mal k5).2.1) then q2 else (f_Model_goesAlone_L5 W mpr wi Hh u (1 : Int32) mlo mal k5).2.1) else q2)) (f_Model_goesAlone_L47 W mpr wi u k5 (((f_Model_startCost (W wi) u).toInt64) * ((f_Model_ones (f_Model_startsOf (nI k5) Hh)).toInt64)) Hh))) (if (f_Model_keeps (W wi) u (nI k5) Hh) = (0 : Int32) then (f_Model_goesAlone_L5 W mpr wi Hh u (1 : Int32) mlo mal k5).2.2 else ((fun q2 => (if ((f_Model_goesAlone_L5 W mpr wi Hh u (1 : Int32) mlo mal k5).1) = (0 : Int32) then (if q2 < ((f_Model_goesAlone_L5 W mpr wi Hh u (1 : Int32) mlo mal k5).2.1) then nI k5 else (f_Model_goesAlone_L5 W mpr wi Hh u (1 : Int32) mlo mal k5).2.2) else nI k5)) (f_Model_goesAlone_L47 W mpr wi u k5 (((f_Model_startCost (W wi) u).toInt64) * ((f_Model_ones (f_Model_startsOf (nI k5) Hh)).toInt64)) Hh))) mpr lak trc ntr) := ov_isV
    refine r_iinc [(0, .ref b), (1, .ref (b + (6 + wi))), (2, .int (nI u)), (3, .int (if (f_Model_keeps (W wi) u (nI k5) Hh) = (0 : Int32) then (f_Model_goesAlone_L5 W mpr wi Hh u (1 : Int32) mlo mal k5).1 else ((fun q2 => if ((f_Model_goesAlone_L5 W mpr wi Hh u (1 : Int32) mlo mal k5).1) = (0 : Int32) then if q2 < ((f_Model_goesAlone_L5 W mpr wi Hh u (1 : Int32) mlo mal k5).2.1) then (0 : Int32) else (f_Model_goesAlone_L5 W mpr wi Hh u (1 : Int32) mlo mal k5).1 else (0 : Int32)) (f_Model_goesAlone_L47 W mpr wi u k5 (((f_Model_startCost (W wi) u).toInt64) * ((f_Model_ones (f_Model_startsOf (nI k5) Hh)).toInt64)) Hh)))), (4, .int (nI (k5 + 1)))] X (nI (k5 + 1)) 4 dX8_goesAlone_131 rfl (nI_succ _).symm (by decide) rfl ?_
    refine r_goto X 5 dX8_goesAlone_134 rfl ?_
    exact ih
  obtain ⟨q3, eq3⟩ : ∃ q, q = f_Model_goesAlone_L5 W mpr wi Hh u (1 : Int32) mlo mal (2 ^ Hh) := ⟨_, rfl⟩
  rw [← eq3]
  rw [← eq3] at hf
  try dsimp only at hf
  have hv_b : isV (ov h b (modL b lane many items spare stat tape taped fk fp mat mst tok mval W past nac imgs kept gvn costs lst sets bst q3.2.1 q3.2.2 mpr lak trc ntr)) b (modL b lane many items spare stat tape taped fk fp mat mst tok mval W past nac imgs kept gvn costs lst sets bst q3.2.1 q3.2.2 mpr lak trc ntr) := ov_isV
  refine r_iload X 4 dX8_goesAlone_5 rfl ?_
  refine r_iconst X (1 : Int32) dX8_goesAlone_7 (by decide) ?_
  refine r_aload_n X 1 dX8_goesAlone_8 rfl ?_
  refine r_iconst X (1 : Int32) dX8_goesAlone_9 (by decide) ?_
  refine r_ialdv X (v := nI Hh) (k0 := 1) dX8_goesAlone_10 (hv_b (6 + wi) _ (modL_W (by omega))) (by omega) (by decide) h1 ?_
  refine r_ishl1n X (k0 := Hh) dX8_goesAlone_11 (by omega) ?_
  refine r_icmp_ge X 137 dX8_goesAlone_12 rfl (fun _ => ?_) (fun z => absurd z (nI_nlt (a := 2 ^ Hh) (b := 2 ^ Hh) (by omega) (by omega)))
  try subst hf
  exact r_return X Y dX8_goesAlone_137 rfl rfl

def f_Model_boundOf_L5s (W : Nat → Nat → Int32) (mpr : Nat → Int64) (wi : Nat) (k5 : Nat) (x2 : Int64) : Int64 := x2 + ((((W wi) (3 + k5)).toInt64) * (mpr k5))
def f_Model_boundOf_L5 (W : Nat → Nat → Int32) (mpr : Nat → Int64) (wi : Nat) (x2 : Int64) : Nat → Int64
  | 0 => x2
  | k5 + 1 => f_Model_boundOf_L5s W mpr wi k5 (f_Model_boundOf_L5 W mpr wi x2 k5)
def f_Model_boundOf_L40s (W : Nat → Nat → Int32) (mpr : Nat → Int64) (wi : Nat) (Hh : Nat) (k40 : Nat) (x2 : Int64) (mlo : Int64) (mal : Int32) : Int64 × Int64 × Int32 := ((fun q1 => (x2 + q1.1, q1.1, q1.2)) (f_Model_goesAlone W mlo mal mpr k40 wi Hh))
def f_Model_boundOf_L40 (W : Nat → Nat → Int32) (mpr : Nat → Int64) (wi : Nat) (Hh : Nat) (x2 : Int64) (mlo : Int64) (mal : Int32) : Nat → Int64 × Int64 × Int32
  | 0 => (x2, mlo, mal)
  | k40 + 1 => f_Model_boundOf_L40s W mpr wi Hh k40 ((f_Model_boundOf_L40 W mpr wi Hh x2 mlo mal k40).1) ((f_Model_boundOf_L40 W mpr wi Hh x2 mlo mal k40).2.1) ((f_Model_boundOf_L40 W mpr wi Hh x2 mlo mal k40).2.2)
def f_Model_boundOf (W : Nat → Nat → Int32) (mlo : Int64) (mal : Int32) (mpr : Nat → Int64) (wi : Nat) (U : Nat) (Hh : Nat) : Int64 × Int64 × Int32 := ((fun q3 => (q3.1, q3.2.1, q3.2.2)) (f_Model_boundOf_L40 W mpr wi Hh (f_Model_boundOf_L5 W mpr wi (0 : Int64) Hh) mlo mal U))
set_option maxRecDepth 20000 in
set_option maxHeartbeats 4000000 in
theorem c_Model_boundOf {G : mG} {h : mHp} {b : Nat} {lane : Nat → Int32} {many : Nat → Nat} {items : Nat → Int32} {spare : Nat → Int32} {stat : Int32} {tape : Nat → Int32} {taped : Nat} {fk : Int32} {fp : Int32} {mat : Nat} {mst : Nat} {tok : Int32} {mval : Int32} {W : Nat → Nat → Int32} {past : Nat → Int32} {nac : Nat} {imgs : Nat → Int32} {kept : Nat → Int32} {gvn : Nat → Int32} {costs : Nat → Int32} {lst : Nat → Int32} {sets : Nat → Int32} {bst : Int32} {mlo : Int64} {mal : Int32} {mpr : Nat → Int64} {lak : Nat → Int64} {trc : Nat → Int32} {ntr : Nat} {wi : Nat} {U : Nat} {Hh : Nat}   (hwi : wi < 3) (h0 : W wi 0 = nI U) (hU : U ≤ 4) (h1 : W wi 1 = nI Hh) (hH : Hh ≤ 6) : Ret G 4 mX8_boundOf [.ref b, .ref (b + (6 + wi))] (ov h b (modL b lane many items spare stat tape taped fk fp mat mst tok mval W past nac imgs kept gvn costs lst sets bst mlo mal mpr lak trc ntr)) (some (.long (f_Model_boundOf W mlo mal mpr wi U Hh).1)) (ov h b (modL b lane many items spare stat tape taped fk fp mat mst tok mval W past nac imgs kept gvn costs lst sets bst (f_Model_boundOf W mlo mal mpr wi U Hh).2.1 (f_Model_boundOf W mlo mal mpr wi U Hh).2.2 mpr lak trc ntr)) := by
  generalize hf : f_Model_boundOf W mlo mal mpr wi U Hh = R
  unfold f_Model_boundOf at hf
  refine Ret.of [(0, .ref b), (1, .ref (b + (6 + wi)))] (by decide) (Nat.le_of_ble_eq_true rfl) rfl ?_
  rintro Z rfl X Y
  have hv_b : isV (ov h b (modL b lane many items spare stat tape taped fk fp mat mst tok mval W past nac imgs kept gvn costs lst sets bst mlo mal mpr lak trc ntr)) b (modL b lane many items spare stat tape taped fk fp mat mst tok mval W past nac imgs kept gvn costs lst sets bst mlo mal mpr lak trc ntr) := ov_isV
  refine r_lconst X (0 : Int64) dX8_boundOf_0 (by decide) ?_
  refine r_lstore_n [(0, .ref b), (1, .ref (b + (6 + wi))), (2, .long (0 : Int64))] X dX8_boundOf_1 rfl (by decide) rfl ?_
  refine r_iconst X (0 : Int32) dX8_boundOf_2 (by decide) ?_
  refine r_istore [(0, .ref b), (1, .ref (b + (6 + wi))), (2, .long (0 : Int64)), (4, .int (0 : Int32))] X dX8_boundOf_3 (by decide) rfl ?_
  refine loop_up (P := fun k1 => SW Z 5 [(0, .ref b), (1, .ref (b + (6 + wi))), (2, .long (f_Model_boundOf_L5 W mpr wi (0 : Int64) k1)), (4, .int (nI k1))] [] (ov h b (modL b lane many items spare stat tape taped fk fp mat mst tok mval W past nac imgs kept gvn costs lst sets bst mlo mal mpr lak trc ntr))) Hh ?_ ?_ 0 (Nat.zero_le _)
  rotate_left
  · intro k1 hk1 ih
    have hv_b : isV (ov h b (modL b lane many items spare stat tape taped fk fp mat mst tok mval W past nac imgs kept gvn costs lst sets bst mlo mal mpr lak trc ntr)) b (modL b lane many items spare stat tape taped fk fp mat mst tok mval W past nac imgs kept gvn costs lst sets bst mlo mal mpr lak trc ntr) := ov_isV
    refine r_iload X 3 dX8_boundOf_5 rfl ?_
    refine r_aload_n X 1 dX8_boundOf_7 rfl ?_
    refine r_iconst X (1 : Int32) dX8_boundOf_8 (by decide) ?_
    refine r_ialdv X (v := nI Hh) (k0 := 1) dX8_boundOf_9 (hv_b (6 + wi) _ (modL_W (by omega))) (by omega) (by decide) h1 ?_
    refine r_icmp_ge X 37 dX8_boundOf_10 rfl (fun z => absurd (nI_lt (a := k1) (b := Hh) (by omega) (by omega)) z) (fun _ => ?_)
    refine r_lload_n X 2 dX8_boundOf_13 rfl ?_
    refine r_aload_n X 1 dX8_boundOf_14 rfl ?_
    refine r_iconst X (3 : Int32) dX8_boundOf_15 (by decide) ?_
    refine r_iload X 3 dX8_boundOf_16 rfl ?_
    refine r_iaddn X (a := 3) (b := k1) dX8_boundOf_18 ?_
    refine r_ialdn X (k0 := 3 + k1) dX8_boundOf_19 (hv_b (6 + wi) _ (modL_W (by omega))) (by omega) (by decide) ?_
    refine r_i2l X dX8_boundOf_20 ?_
    refine r_aload_n X 0 dX8_boundOf_21 rfl ?_
    refine gf_X8_56 X dX8_boundOf_22 (hv_b 0 _ rfl) rfl ?_
    refine r_iload X 3 dX8_boundOf_25 rfl ?_
    refine r_laldn X (k0 := k1) dX8_boundOf_27 (hv_b 16 _ rfl) (by omega) (by decide) ?_
    refine r_lmul X dX8_boundOf_28 ?_
    refine r_ladd X dX8_boundOf_29 ?_
    refine r_lstore_n [(0, .ref b), (1, .ref (b + (6 + wi))), (2, .long ((f_Model_boundOf_L5 W mpr wi (0 : Int64) k1) + ((((W wi) (3 + k1)).toInt64) * (mpr k1)))), (4, .int (nI k1))] X dX8_boundOf_30 rfl (by decide) rfl ?_
    refine r_iinc [(0, .ref b), (1, .ref (b + (6 + wi))), (2, .long ((f_Model_boundOf_L5 W mpr wi (0 : Int64) k1) + ((((W wi) (3 + k1)).toInt64) * (mpr k1)))), (4, .int (nI (k1 + 1)))] X (nI (k1 + 1)) 3 dX8_boundOf_31 rfl (nI_succ _).symm (by decide) rfl ?_
    refine r_goto X 5 dX8_boundOf_34 rfl ?_
    exact ih
  have hv_b : isV (ov h b (modL b lane many items spare stat tape taped fk fp mat mst tok mval W past nac imgs kept gvn costs lst sets bst mlo mal mpr lak trc ntr)) b (modL b lane many items spare stat tape taped fk fp mat mst tok mval W past nac imgs kept gvn costs lst sets bst mlo mal mpr lak trc ntr) := ov_isV
  refine r_iload X 3 dX8_boundOf_5 rfl ?_
  refine r_aload_n X 1 dX8_boundOf_7 rfl ?_
  refine r_iconst X (1 : Int32) dX8_boundOf_8 (by decide) ?_
  refine r_ialdv X (v := nI Hh) (k0 := 1) dX8_boundOf_9 (hv_b (6 + wi) _ (modL_W (by omega))) (by omega) (by decide) h1 ?_
  refine r_icmp_ge X 37 dX8_boundOf_10 rfl (fun _ => ?_) (fun z => absurd z (nI_nlt (a := Hh) (b := Hh) (by omega) (by omega)))
  refine r_iconst X (0 : Int32) dX8_boundOf_37 (by decide) ?_
  refine r_istore [(0, .ref b), (1, .ref (b + (6 + wi))), (2, .long (f_Model_boundOf_L5 W mpr wi (0 : Int64) Hh)), (4, .int (0 : Int32))] X dX8_boundOf_38 (by decide) rfl ?_
  refine loop_up (P := fun k2 => SW Z 40 [(0, .ref b), (1, .ref (b + (6 + wi))), (2, .long ((f_Model_boundOf_L40 W mpr wi Hh (f_Model_boundOf_L5 W mpr wi (0 : Int64) Hh) mlo mal k2).1)), (4, .int (nI k2))] [] (ov h b (modL b lane many items spare stat tape taped fk fp mat mst tok mval W past nac imgs kept gvn costs lst sets bst ((f_Model_boundOf_L40 W mpr wi Hh (f_Model_boundOf_L5 W mpr wi (0 : Int64) Hh) mlo mal k2).2.1) ((f_Model_boundOf_L40 W mpr wi Hh (f_Model_boundOf_L5 W mpr wi (0 : Int64) Hh) mlo mal k2).2.2) mpr lak trc ntr))) U ?_ ?_ 0 (Nat.zero_le _)
  rotate_left
  · intro k2 hk2 ih
    have hv_b : isV (ov h b (modL b lane many items spare stat tape taped fk fp mat mst tok mval W past nac imgs kept gvn costs lst sets bst ((f_Model_boundOf_L40 W mpr wi Hh (f_Model_boundOf_L5 W mpr wi (0 : Int64) Hh) mlo mal k2).2.1) ((f_Model_boundOf_L40 W mpr wi Hh (f_Model_boundOf_L5 W mpr wi (0 : Int64) Hh) mlo mal k2).2.2) mpr lak trc ntr)) b (modL b lane many items spare stat tape taped fk fp mat mst tok mval W past nac imgs kept gvn costs lst sets bst ((f_Model_boundOf_L40 W mpr wi Hh (f_Model_boundOf_L5 W mpr wi (0 : Int64) Hh) mlo mal k2).2.1) ((f_Model_boundOf_L40 W mpr wi Hh (f_Model_boundOf_L5 W mpr wi (0 : Int64) Hh) mlo mal k2).2.2) mpr lak trc ntr) := ov_isV
    refine r_iload X 3 dX8_boundOf_40 rfl ?_
    refine r_aload_n X 1 dX8_boundOf_42 rfl ?_
    refine r_iconst X (0 : Int32) dX8_boundOf_43 (by decide) ?_
    refine r_ialdv X (v := nI U) (k0 := 0) dX8_boundOf_44 (hv_b (6 + wi) _ (modL_W (by omega))) (by omega) (by decide) h0 ?_
    refine r_icmp_ge X 68 dX8_boundOf_45 rfl (fun z => absurd (nI_lt (a := k2) (b := U) (by omega) (by omega)) z) (fun _ => ?_)
    refine r_aload_n X 0 dX8_boundOf_48 rfl ?_
    refine r_aload_n X 1 dX8_boundOf_49 rfl ?_
    refine r_iload X 3 dX8_boundOf_50 rfl ?_
    refine cl_X8_272 X (by decide) dX8_boundOf_52 (Nat.le_of_ble_eq_true rfl) (hv_b 0 _ rfl) (c_Model_goesAlone  (by first | assumption | omega) (by first | assumption | omega) (by first | assumption | omega) (by first | assumption | omega)) ?_
    obtain ⟨q2, eq2⟩ : ∃ q, q = f_Model_goesAlone W ((f_Model_boundOf_L40 W mpr wi Hh (f_Model_boundOf_L5 W mpr wi (0 : Int64) Hh) mlo mal k2).2.1) ((f_Model_boundOf_L40 W mpr wi Hh (f_Model_boundOf_L5 W mpr wi (0 : Int64) Hh) mlo mal k2).2.2) mpr k2 wi Hh := ⟨_, rfl⟩
    rw [← eq2]
    have hv_b : isV (ov h b (modL b lane many items spare stat tape taped fk fp mat mst tok mval W past nac imgs kept gvn costs lst sets bst q2.1 q2.2 mpr lak trc ntr)) b (modL b lane many items spare stat tape taped fk fp mat mst tok mval W past nac imgs kept gvn costs lst sets bst q2.1 q2.2 mpr lak trc ntr) := ov_isV
    refine r_lload_n X 2 dX8_boundOf_55 rfl ?_
    refine r_aload_n X 0 dX8_boundOf_56 rfl ?_
    refine gf_X8_263 X dX8_boundOf_57 (hv_b 0 _ rfl) rfl ?_
    refine r_ladd X dX8_boundOf_60 ?_
    refine r_lstore_n [(0, .ref b), (1, .ref (b + (6 + wi))), (2, .long (((f_Model_boundOf_L40 W mpr wi Hh (f_Model_boundOf_L5 W mpr wi (0 : Int64) Hh) mlo mal k2).1) + q2.1)), (4, .int (nI k2))] X dX8_boundOf_61 rfl (by decide) rfl ?_
    refine r_iinc [(0, .ref b), (1, .ref (b + (6 + wi))), (2, .long (((f_Model_boundOf_L40 W mpr wi Hh (f_Model_boundOf_L5 W mpr wi (0 : Int64) Hh) mlo mal k2).1) + q2.1)), (4, .int (nI (k2 + 1)))] X (nI (k2 + 1)) 3 dX8_boundOf_62 rfl (nI_succ _).symm (by decide) rfl ?_
    refine r_goto X 40 dX8_boundOf_65 rfl ?_
    subst eq2
    exact ih
  obtain ⟨q3, eq3⟩ : ∃ q, q = f_Model_boundOf_L40 W mpr wi Hh (f_Model_boundOf_L5 W mpr wi (0 : Int64) Hh) mlo mal U := ⟨_, rfl⟩
  rw [← eq3]
  rw [← eq3] at hf
  try dsimp only at hf
  have hv_b : isV (ov h b (modL b lane many items spare stat tape taped fk fp mat mst tok mval W past nac imgs kept gvn costs lst sets bst q3.2.1 q3.2.2 mpr lak trc ntr)) b (modL b lane many items spare stat tape taped fk fp mat mst tok mval W past nac imgs kept gvn costs lst sets bst q3.2.1 q3.2.2 mpr lak trc ntr) := ov_isV
  refine r_iload X 3 dX8_boundOf_40 rfl ?_
  refine r_aload_n X 1 dX8_boundOf_42 rfl ?_
  refine r_iconst X (0 : Int32) dX8_boundOf_43 (by decide) ?_
  refine r_ialdv X (v := nI U) (k0 := 0) dX8_boundOf_44 (hv_b (6 + wi) _ (modL_W (by omega))) (by omega) (by decide) h0 ?_
  refine r_icmp_ge X 68 dX8_boundOf_45 rfl (fun _ => ?_) (fun z => absurd z (nI_nlt (a := U) (b := U) (by omega) (by omega)))
  refine r_lload_n X 2 dX8_boundOf_68 rfl ?_
  try subst hf
  exact r_lreturn X Y dX8_boundOf_69 rfl rfl

def f_Model_moves_L2s  (k2 : Nat) (mpr : Nat → Int64) : (Nat → Int64) := vp_updL mpr k2 (0 : Int64)
def f_Model_moves_L2  (mpr : Nat → Int64) : Nat → (Nat → Int64)
  | 0 => mpr
  | k2 + 1 => f_Model_moves_L2s  k2 (f_Model_moves_L2  mpr k2)
def f_Model_moves_L42s (W : Nat → Nat → Int32) (k42 : Nat) (lak : Nat → Int64) : (Nat → Int64) := vp_updL lak k42 (((W 0) (3 + k42)).toInt64)
def f_Model_moves_L42 (W : Nat → Nat → Int32) (lak : Nat → Int64) : Nat → (Nat → Int64)
  | 0 => lak
  | k42 + 1 => f_Model_moves_L42s W k42 (f_Model_moves_L42 W lak k42)
def f_Model_moves_L103s (W : Nat → Nat → Int32) (mal : Int32) (mpr : Nat → Int64) (n5 : Nat) (k103 : Nat) (lak : Nat → Int64) : (Nat → Int64) := vp_updL lak k103 ((lak k103) - (f_Model_givesAlone (W 0) n5 mal (nI k103) (mpr k103)))
def f_Model_moves_L103 (W : Nat → Nat → Int32) (mal : Int32) (mpr : Nat → Int64) (n5 : Nat) (lak : Nat → Int64) : Nat → (Nat → Int64)
  | 0 => lak
  | k103 + 1 => f_Model_moves_L103s W mal mpr n5 k103 (f_Model_moves_L103 W mal mpr n5 lak k103)
def f_Model_moves_L79s (W : Nat → Nat → Int32) (mpr : Nat → Int64) (Hh : Nat) (k79 : Nat) (mlo : Int64) (mal : Int32) (lak : Nat → Int64) : Int64 × Int32 × (Nat → Int64) := ((fun q2 => (q2.1, q2.2, (f_Model_moves_L103 W q2.2 mpr k79 lak Hh))) (f_Model_goesAlone W mlo mal mpr k79 0 Hh))
def f_Model_moves_L79 (W : Nat → Nat → Int32) (mpr : Nat → Int64) (Hh : Nat) (mlo : Int64) (mal : Int32) (lak : Nat → Int64) : Nat → Int64 × Int32 × (Nat → Int64)
  | 0 => (mlo, mal, lak)
  | k79 + 1 => f_Model_moves_L79s W mpr Hh k79 ((f_Model_moves_L79 W mpr Hh mlo mal lak k79).1) ((f_Model_moves_L79 W mpr Hh mlo mal lak k79).2.1) ((f_Model_moves_L79 W mpr Hh mlo mal lak k79).2.2)
def f_Model_moves_L161s (lak : Nat → Int64) (k161 : Nat) (mpr : Nat → Int64) : (Nat → Int64) := vp_updL (vp_updL mpr k161 ((mpr k161) + (lak k161))) k161 (if ((vp_updL mpr k161 ((mpr k161) + (lak k161))) k161) < (0 : Int64) then (0 : Int64) else (vp_updL mpr k161 ((mpr k161) + (lak k161))) k161)
def f_Model_moves_L161 (lak : Nat → Int64) (mpr : Nat → Int64) : Nat → (Nat → Int64)
  | 0 => mpr
  | k161 + 1 => f_Model_moves_L161s lak k161 (f_Model_moves_L161 lak mpr k161)
def f_Model_moves_L33s (W : Nat → Nat → Int32) (U : Nat) (Hh : Nat) (k33 : Nat) (x2 : Int64) (mlo : Int64) (mal : Int32) (mpr : Nat → Int64) (lak : Nat → Int64) : Int64 × Int64 × Int32 × (Nat → Int64) × (Nat → Int64) := ((fun q5 => ((fun q6 => (if x2 < q6.1 then q6.1 else x2, q6.2.1, q6.2.2, (f_Model_moves_L161 q5.2.2 mpr Hh), q5.2.2)) (f_Model_boundOf W q5.1 q5.2.1 (f_Model_moves_L161 q5.2.2 mpr Hh) 0 U Hh))) (f_Model_moves_L79 W mpr Hh mlo mal (f_Model_moves_L42 W lak Hh) U))
def f_Model_moves_L33 (W : Nat → Nat → Int32) (U : Nat) (Hh : Nat) (x2 : Int64) (mlo : Int64) (mal : Int32) (mpr : Nat → Int64) (lak : Nat → Int64) : Nat → Int64 × Int64 × Int32 × (Nat → Int64) × (Nat → Int64)
  | 0 => (x2, mlo, mal, mpr, lak)
  | k33 + 1 => f_Model_moves_L33s W U Hh k33 ((f_Model_moves_L33 W U Hh x2 mlo mal mpr lak k33).1) ((f_Model_moves_L33 W U Hh x2 mlo mal mpr lak k33).2.1) ((f_Model_moves_L33 W U Hh x2 mlo mal mpr lak k33).2.2.1) ((f_Model_moves_L33 W U Hh x2 mlo mal mpr lak k33).2.2.2.1) ((f_Model_moves_L33 W U Hh x2 mlo mal mpr lak k33).2.2.2.2)
def f_Model_moves (W : Nat → Nat → Int32) (mlo : Int64) (mal : Int32) (mpr : Nat → Int64) (lak : Nat → Int64) (n : Nat) (U : Nat) (Hh : Nat) : Int64 × Int64 × Int32 × (Nat → Int64) × (Nat → Int64) := ((fun q1 => ((fun q13 => (q13.1, q13.2.1, q13.2.2.1, q13.2.2.2.1, q13.2.2.2.2)) (f_Model_moves_L33 W U Hh q1.1 q1.2.1 q1.2.2 (f_Model_moves_L2  mpr 6) lak n))) (f_Model_boundOf W mlo mal (f_Model_moves_L2  mpr 6) 0 U Hh))
set_option maxRecDepth 20000 in
set_option maxHeartbeats 4000000 in
theorem c_Model_moves {G : mG} {h : mHp} {b : Nat} {lane : Nat → Int32} {many : Nat → Nat} {items : Nat → Int32} {spare : Nat → Int32} {stat : Int32} {tape : Nat → Int32} {taped : Nat} {fk : Int32} {fp : Int32} {mat : Nat} {mst : Nat} {tok : Int32} {mval : Int32} {W : Nat → Nat → Int32} {past : Nat → Int32} {nac : Nat} {imgs : Nat → Int32} {kept : Nat → Int32} {gvn : Nat → Int32} {costs : Nat → Int32} {lst : Nat → Int32} {sets : Nat → Int32} {bst : Int32} {mlo : Int64} {mal : Int32} {mpr : Nat → Int64} {lak : Nat → Int64} {trc : Nat → Int32} {ntr : Nat} {n : Nat} {U : Nat} {Hh : Nat}   (h0 : W 0 0 = nI U) (hU : U ≤ 4) (h1 : W 0 1 = nI Hh) (hH : Hh ≤ 6) (hn : n ≤ 12) : Ret G 5 mX8_moves [.ref b, .int (nI n)] (ov h b (modL b lane many items spare stat tape taped fk fp mat mst tok mval W past nac imgs kept gvn costs lst sets bst mlo mal mpr lak trc ntr)) (some (.long (f_Model_moves W mlo mal mpr lak n U Hh).1)) (ov h b (modL b lane many items spare stat tape taped fk fp mat mst tok mval W past nac imgs kept gvn costs lst sets bst (f_Model_moves W mlo mal mpr lak n U Hh).2.1 (f_Model_moves W mlo mal mpr lak n U Hh).2.2.1 (f_Model_moves W mlo mal mpr lak n U Hh).2.2.2.1 (f_Model_moves W mlo mal mpr lak n U Hh).2.2.2.2 trc ntr)) := by
  generalize hf : f_Model_moves W mlo mal mpr lak n U Hh = R
  unfold f_Model_moves at hf
  refine Ret.of [(0, .ref b), (1, .int (nI n))] (by decide) (Nat.le_of_ble_eq_true rfl) rfl ?_
  rintro Z rfl X Y
  have hv_b : isV (ov h b (modL b lane many items spare stat tape taped fk fp mat mst tok mval W past nac imgs kept gvn costs lst sets bst mlo mal mpr lak trc ntr)) b (modL b lane many items spare stat tape taped fk fp mat mst tok mval W past nac imgs kept gvn costs lst sets bst mlo mal mpr lak trc ntr) := ov_isV
  refine r_iconst X (0 : Int32) dX8_moves_0 (by decide) ?_
  refine r_istore_n [(0, .ref b), (1, .int (nI n)), (2, .int (0 : Int32))] X dX8_moves_1 rfl (by decide) rfl ?_
  refine loop_up (P := fun k1 => SW Z 2 [(0, .ref b), (1, .int (nI n)), (2, .int (nI k1))] [] (ov h b (modL b lane many items spare stat tape taped fk fp mat mst tok mval W past nac imgs kept gvn costs lst sets bst mlo mal (f_Model_moves_L2  mpr k1) lak trc ntr))) 6 ?_ ?_ 0 (Nat.zero_le _)
  rotate_left
  · intro k1 hk1 ih
    have hv_b : isV (ov h b (modL b lane many items spare stat tape taped fk fp mat mst tok mval W past nac imgs kept gvn costs lst sets bst mlo mal (f_Model_moves_L2  mpr k1) lak trc ntr)) b (modL b lane many items spare stat tape taped fk fp mat mst tok mval W past nac imgs kept gvn costs lst sets bst mlo mal (f_Model_moves_L2  mpr k1) lak trc ntr) := ov_isV
    refine r_iload_n X 2 dX8_moves_2 rfl ?_
    refine r_bipush X (6 : Int32) dX8_moves_3 (by decide) ?_
    refine r_icmp_ge X 21 dX8_moves_5 rfl (fun z => absurd (nI_lt (a := k1) (b := 6) (by omega) (by omega)) z) (fun _ => ?_)
    refine r_aload_n X 0 dX8_moves_8 rfl ?_
    refine gf_X8_56 X dX8_moves_9 (hv_b 0 _ rfl) rfl ?_
    refine r_iload_n X 2 dX8_moves_12 rfl ?_
    refine r_lconst X (0 : Int64) dX8_moves_13 (by decide) ?_
    refine r_lastn X (k0 := k1) dX8_moves_14 (hv_b 16 _ rfl) (by omega) (by first | decide | omega) ?_
    refine SW.heq (h2 := (ov h b (modL b lane many items spare stat tape taped fk fp mat mst tok mval W past nac imgs kept gvn costs lst sets bst mlo mal (vp_updL (f_Model_moves_L2  mpr k1) k1 (0 : Int64)) lak trc ntr))) (ov_up 16 (Nat.le_of_ble_eq_true rfl) rfl) ?_
    have hv_b : isV (ov h b (modL b lane many items spare stat tape taped fk fp mat mst tok mval W past nac imgs kept gvn costs lst sets bst mlo mal (vp_updL (f_Model_moves_L2  mpr k1) k1 (0 : Int64)) lak trc ntr)) b (modL b lane many items spare stat tape taped fk fp mat mst tok mval W past nac imgs kept gvn costs lst sets bst mlo mal (vp_updL (f_Model_moves_L2  mpr k1) k1 (0 : Int64)) lak trc ntr) := ov_isV
    refine r_iinc [(0, .ref b), (1, .int (nI n)), (2, .int (nI (k1 + 1)))] X (nI (k1 + 1)) 2 dX8_moves_15 rfl (nI_succ _).symm (by decide) rfl ?_
    refine r_goto X 2 dX8_moves_18 rfl ?_
    exact ih
  have hv_b : isV (ov h b (modL b lane many items spare stat tape taped fk fp mat mst tok mval W past nac imgs kept gvn costs lst sets bst mlo mal (f_Model_moves_L2  mpr 6) lak trc ntr)) b (modL b lane many items spare stat tape taped fk fp mat mst tok mval W past nac imgs kept gvn costs lst sets bst mlo mal (f_Model_moves_L2  mpr 6) lak trc ntr) := ov_isV
  refine r_iload_n X 2 dX8_moves_2 rfl ?_
  refine r_bipush X (6 : Int32) dX8_moves_3 (by decide) ?_
  refine r_icmp_ge X 21 dX8_moves_5 rfl (fun _ => ?_) (fun z => absurd z (nI_nlt (a := 6) (b := 6) (by omega) (by omega)))
  refine r_aload_n X 0 dX8_moves_21 rfl ?_
  refine r_aload_n X 0 dX8_moves_22 rfl ?_
  refine gf_X8_25 X dX8_moves_23 (hv_b 0 _ rfl) rfl ?_
  refine cl_X8_277 X (by decide) dX8_moves_26 (Nat.le_of_ble_eq_true rfl) (hv_b 0 _ rfl) (c_Model_boundOf  (by first | assumption | omega) (by first | assumption | omega) (by first | assumption | omega) (by first | assumption | omega) (by first | assumption | omega)) ?_
  obtain ⟨q1, eq1⟩ : ∃ q, q = f_Model_boundOf W mlo mal (f_Model_moves_L2  mpr 6) 0 U Hh := ⟨_, rfl⟩
  rw [← eq1]
  rw [← eq1] at hf
  try dsimp only at hf
  have hv_b : isV (ov h b (modL b lane many items spare stat tape taped fk fp mat mst tok mval W past nac imgs kept gvn costs lst sets bst q1.2.1 q1.2.2 (f_Model_moves_L2  mpr 6) lak trc ntr)) b (modL b lane many items spare stat tape taped fk fp mat mst tok mval W past nac imgs kept gvn costs lst sets bst q1.2.1 q1.2.2 (f_Model_moves_L2  mpr 6) lak trc ntr) := ov_isV
  refine r_lstore_n [(0, .ref b), (1, .int (nI n)), (2, .long q1.1)] X dX8_moves_29 rfl (by decide) rfl ?_
  refine r_iconst X (0 : Int32) dX8_moves_30 (by decide) ?_
  refine r_istore [(0, .ref b), (1, .int (nI n)), (2, .long q1.1), (4, .int (0 : Int32))] X dX8_moves_31 (by decide) rfl ?_
  refine loop_up (P := fun k10 => SW Z 33 [(0, .ref b), (1, .int (nI n)), (2, .long ((f_Model_moves_L33 W U Hh q1.1 q1.2.1 q1.2.2 (f_Model_moves_L2  mpr 6) lak k10).1)), (4, .int (nI k10))] [] (ov h b (modL b lane many items spare stat tape taped fk fp mat mst tok mval W past nac imgs kept gvn costs lst sets bst ((f_Model_moves_L33 W U Hh q1.1 q1.2.1 q1.2.2 (f_Model_moves_L2  mpr 6) lak k10).2.1) ((f_Model_moves_L33 W U Hh q1.1 q1.2.1 q1.2.2 (f_Model_moves_L2  mpr 6) lak k10).2.2.1) ((f_Model_moves_L33 W U Hh q1.1 q1.2.1 q1.2.2 (f_Model_moves_L2  mpr 6) lak k10).2.2.2.1) ((f_Model_moves_L33 W U Hh q1.1 q1.2.1 q1.2.2 (f_Model_moves_L2  mpr 6) lak k10).2.2.2.2) trc ntr))) n ?_ ?_ 0 (Nat.zero_le _)
  rotate_left
  · intro k10 hk10 ih
    have hv_b : isV (ov h b (modL b lane many items spare stat tape taped fk fp mat mst tok mval W past nac imgs kept gvn costs lst sets bst ((f_Model_moves_L33 W U Hh q1.1 q1.2.1 q1.2.2 (f_Model_moves_L2  mpr 6) lak k10).2.1) ((f_Model_moves_L33 W U Hh q1.1 q1.2.1 q1.2.2 (f_Model_moves_L2  mpr 6) lak k10).2.2.1) ((f_Model_moves_L33 W U Hh q1.1 q1.2.1 q1.2.2 (f_Model_moves_L2  mpr 6) lak k10).2.2.2.1) ((f_Model_moves_L33 W U Hh q1.1 q1.2.1 q1.2.2 (f_Model_moves_L2  mpr 6) lak k10).2.2.2.2) trc ntr)) b (modL b lane many items spare stat tape taped fk fp mat mst tok mval W past nac imgs kept gvn costs lst sets bst ((f_Model_moves_L33 W U Hh q1.1 q1.2.1 q1.2.2 (f_Model_moves_L2  mpr 6) lak k10).2.1) ((f_Model_moves_L33 W U Hh q1.1 q1.2.1 q1.2.2 (f_Model_moves_L2  mpr 6) lak k10).2.2.1) ((f_Model_moves_L33 W U Hh q1.1 q1.2.1 q1.2.2 (f_Model_moves_L2  mpr 6) lak k10).2.2.2.1) ((f_Model_moves_L33 W U Hh q1.1 q1.2.1 q1.2.2 (f_Model_moves_L2  mpr 6) lak k10).2.2.2.2) trc ntr) := ov_isV
    refine r_iload X 3 dX8_moves_33 rfl ?_
    refine r_iload_n X 1 dX8_moves_35 rfl ?_
    refine r_icmp_ge X 255 dX8_moves_36 rfl (fun z => absurd (nI_lt (a := k10) (b := n) (by omega) (by omega)) z) (fun _ => ?_)
    refine r_iconst X (0 : Int32) dX8_moves_39 (by decide) ?_
    refine r_istore [(0, .ref b), (1, .int (nI n)), (2, .long ((f_Model_moves_L33 W U Hh q1.1 q1.2.1 q1.2.2 (f_Model_moves_L2  mpr 6) lak k10).1)), (4, .int (nI k10)), (5, .int (0 : Int32))] X dX8_moves_40 (by decide) rfl ?_
    refine loop_up (P := fun k11 => SW Z 42 [(0, .ref b), (1, .int (nI n)), (2, .long ((f_Model_moves_L33 W U Hh q1.1 q1.2.1 q1.2.2 (f_Model_moves_L2  mpr 6) lak k10).1)), (4, .int (nI k10)), (5, .int (nI k11))] [] (ov h b (modL b lane many items spare stat tape taped fk fp mat mst tok mval W past nac imgs kept gvn costs lst sets bst ((f_Model_moves_L33 W U Hh q1.1 q1.2.1 q1.2.2 (f_Model_moves_L2  mpr 6) lak k10).2.1) ((f_Model_moves_L33 W U Hh q1.1 q1.2.1 q1.2.2 (f_Model_moves_L2  mpr 6) lak k10).2.2.1) ((f_Model_moves_L33 W U Hh q1.1 q1.2.1 q1.2.2 (f_Model_moves_L2  mpr 6) lak k10).2.2.2.1) (f_Model_moves_L42 W ((f_Model_moves_L33 W U Hh q1.1 q1.2.1 q1.2.2 (f_Model_moves_L2  mpr 6) lak k10).2.2.2.2) k11) trc ntr))) Hh ?_ ?_ 0 (Nat.zero_le _)
    rotate_left
    · intro k11 hk11 ih
      have hv_b : isV (ov h b (modL b lane many items spare stat tape taped fk fp mat mst tok mval W past nac imgs kept gvn costs lst sets bst ((f_Model_moves_L33 W U Hh q1.1 q1.2.1 q1.2.2 (f_Model_moves_L2  mpr 6) lak k10).2.1) ((f_Model_moves_L33 W U Hh q1.1 q1.2.1 q1.2.2 (f_Model_moves_L2  mpr 6) lak k10).2.2.1) ((f_Model_moves_L33 W U Hh q1.1 q1.2.1 q1.2.2 (f_Model_moves_L2  mpr 6) lak k10).2.2.2.1) (f_Model_moves_L42 W ((f_Model_moves_L33 W U Hh q1.1 q1.2.1 q1.2.2 (f_Model_moves_L2  mpr 6) lak k10).2.2.2.2) k11) trc ntr)) b (modL b lane many items spare stat tape taped fk fp mat mst tok mval W past nac imgs kept gvn costs lst sets bst ((f_Model_moves_L33 W U Hh q1.1 q1.2.1 q1.2.2 (f_Model_moves_L2  mpr 6) lak k10).2.1) ((f_Model_moves_L33 W U Hh q1.1 q1.2.1 q1.2.2 (f_Model_moves_L2  mpr 6) lak k10).2.2.1) ((f_Model_moves_L33 W U Hh q1.1 q1.2.1 q1.2.2 (f_Model_moves_L2  mpr 6) lak k10).2.2.2.1) (f_Model_moves_L42 W ((f_Model_moves_L33 W U Hh q1.1 q1.2.1 q1.2.2 (f_Model_moves_L2  mpr 6) lak k10).2.2.2.2) k11) trc ntr) := ov_isV
      refine r_iload X 4 dX8_moves_42 rfl ?_
      refine r_aload_n X 0 dX8_moves_44 rfl ?_
      refine gf_X8_25 X dX8_moves_45 (hv_b 0 _ rfl) rfl ?_
      refine r_iconst X (1 : Int32) dX8_moves_48 (by decide) ?_
      refine r_ialdv X (v := nI Hh) (k0 := 1) dX8_moves_49 (hv_b (6 + 0) _ (modL_W (by omega))) (by omega) (by decide) h1 ?_
      refine r_icmp_ge X 76 dX8_moves_50 rfl (fun z => absurd (nI_lt (a := k11) (b := Hh) (by omega) (by omega)) z) (fun _ => ?_)
      refine r_aload_n X 0 dX8_moves_53 rfl ?_
      refine gf_X8_60 X dX8_moves_54 (hv_b 0 _ rfl) rfl ?_
      refine r_iload X 4 dX8_moves_57 rfl ?_
      refine r_aload_n X 0 dX8_moves_59 rfl ?_
      refine gf_X8_25 X dX8_moves_60 (hv_b 0 _ rfl) rfl ?_
      refine r_iconst X (3 : Int32) dX8_moves_63 (by decide) ?_
      refine r_iload X 4 dX8_moves_64 rfl ?_
      refine r_iaddn X (a := 3) (b := k11) dX8_moves_66 ?_
      refine r_ialdn X (k0 := 3 + k11) dX8_moves_67 (hv_b (6 + 0) _ (modL_W (by omega))) (by omega) (by decide) ?_
      refine r_i2l X dX8_moves_68 ?_
      refine r_lastn X (k0 := k11) dX8_moves_69 (hv_b 17 _ rfl) (by omega) (by first | decide | omega) ?_
      refine SW.heq (h2 := (ov h b (modL b lane many items spare stat tape taped fk fp mat mst tok mval W past nac imgs kept gvn costs lst sets bst ((f_Model_moves_L33 W U Hh q1.1 q1.2.1 q1.2.2 (f_Model_moves_L2  mpr 6) lak k10).2.1) ((f_Model_moves_L33 W U Hh q1.1 q1.2.1 q1.2.2 (f_Model_moves_L2  mpr 6) lak k10).2.2.1) ((f_Model_moves_L33 W U Hh q1.1 q1.2.1 q1.2.2 (f_Model_moves_L2  mpr 6) lak k10).2.2.2.1) (vp_updL (f_Model_moves_L42 W ((f_Model_moves_L33 W U Hh q1.1 q1.2.1 q1.2.2 (f_Model_moves_L2  mpr 6) lak k10).2.2.2.2) k11) k11 (((W 0) (3 + k11)).toInt64)) trc ntr))) (ov_up 17 (Nat.le_of_ble_eq_true rfl) rfl) ?_
      have hv_b : isV (ov h b (modL b lane many items spare stat tape taped fk fp mat mst tok mval W past nac imgs kept gvn costs lst sets bst ((f_Model_moves_L33 W U Hh q1.1 q1.2.1 q1.2.2 (f_Model_moves_L2  mpr 6) lak k10).2.1) ((f_Model_moves_L33 W U Hh q1.1 q1.2.1 q1.2.2 (f_Model_moves_L2  mpr 6) lak k10).2.2.1) ((f_Model_moves_L33 W U Hh q1.1 q1.2.1 q1.2.2 (f_Model_moves_L2  mpr 6) lak k10).2.2.2.1) (vp_updL (f_Model_moves_L42 W ((f_Model_moves_L33 W U Hh q1.1 q1.2.1 q1.2.2 (f_Model_moves_L2  mpr 6) lak k10).2.2.2.2) k11) k11 (((W 0) (3 + k11)).toInt64)) trc ntr)) b (modL b lane many items spare stat tape taped fk fp mat mst tok mval W past nac imgs kept gvn costs lst sets bst ((f_Model_moves_L33 W U Hh q1.1 q1.2.1 q1.2.2 (f_Model_moves_L2  mpr 6) lak k10).2.1) ((f_Model_moves_L33 W U Hh q1.1 q1.2.1 q1.2.2 (f_Model_moves_L2  mpr 6) lak k10).2.2.1) ((f_Model_moves_L33 W U Hh q1.1 q1.2.1 q1.2.2 (f_Model_moves_L2  mpr 6) lak k10).2.2.2.1) (vp_updL (f_Model_moves_L42 W ((f_Model_moves_L33 W U Hh q1.1 q1.2.1 q1.2.2 (f_Model_moves_L2  mpr 6) lak k10).2.2.2.2) k11) k11 (((W 0) (3 + k11)).toInt64)) trc ntr) := ov_isV
      refine r_iinc [(0, .ref b), (1, .int (nI n)), (2, .long ((f_Model_moves_L33 W U Hh q1.1 q1.2.1 q1.2.2 (f_Model_moves_L2  mpr 6) lak k10).1)), (4, .int (nI k10)), (5, .int (nI (k11 + 1)))] X (nI (k11 + 1)) 4 dX8_moves_70 rfl (nI_succ _).symm (by decide) rfl ?_
      refine r_goto X 42 dX8_moves_73 rfl ?_
      exact ih
    obtain ⟨q7, eq7⟩ : ∃ q, q = f_Model_moves_L42 W ((f_Model_moves_L33 W U Hh q1.1 q1.2.1 q1.2.2 (f_Model_moves_L2  mpr 6) lak k10).2.2.2.2) Hh := ⟨_, rfl⟩
    rw [← eq7]
    have hv_b : isV (ov h b (modL b lane many items spare stat tape taped fk fp mat mst tok mval W past nac imgs kept gvn costs lst sets bst ((f_Model_moves_L33 W U Hh q1.1 q1.2.1 q1.2.2 (f_Model_moves_L2  mpr 6) lak k10).2.1) ((f_Model_moves_L33 W U Hh q1.1 q1.2.1 q1.2.2 (f_Model_moves_L2  mpr 6) lak k10).2.2.1) ((f_Model_moves_L33 W U Hh q1.1 q1.2.1 q1.2.2 (f_Model_moves_L2  mpr 6) lak k10).2.2.2.1) q7 trc ntr)) b (modL b lane many items spare stat tape taped fk fp mat mst tok mval W past nac imgs kept gvn costs lst sets bst ((f_Model_moves_L33 W U Hh q1.1 q1.2.1 q1.2.2 (f_Model_moves_L2  mpr 6) lak k10).2.1) ((f_Model_moves_L33 W U Hh q1.1 q1.2.1 q1.2.2 (f_Model_moves_L2  mpr 6) lak k10).2.2.1) ((f_Model_moves_L33 W U Hh q1.1 q1.2.1 q1.2.2 (f_Model_moves_L2  mpr 6) lak k10).2.2.2.1) q7 trc ntr) := ov_isV
    refine r_iload X 4 dX8_moves_42 rfl ?_
    refine r_aload_n X 0 dX8_moves_44 rfl ?_
    refine gf_X8_25 X dX8_moves_45 (hv_b 0 _ rfl) rfl ?_
    refine r_iconst X (1 : Int32) dX8_moves_48 (by decide) ?_
    refine r_ialdv X (v := nI Hh) (k0 := 1) dX8_moves_49 (hv_b (6 + 0) _ (modL_W (by omega))) (by omega) (by decide) h1 ?_
    refine r_icmp_ge X 76 dX8_moves_50 rfl (fun _ => ?_) (fun z => absurd z (nI_nlt (a := Hh) (b := Hh) (by omega) (by omega)))
    refine r_iconst X (0 : Int32) dX8_moves_76 (by decide) ?_
    refine r_istore [(0, .ref b), (1, .int (nI n)), (2, .long ((f_Model_moves_L33 W U Hh q1.1 q1.2.1 q1.2.2 (f_Model_moves_L2  mpr 6) lak k10).1)), (4, .int (nI k10)), (5, .int (0 : Int32))] X dX8_moves_77 (by decide) rfl ?_
    refine loop_up (P := fun k12 => SW Z 79 [(0, .ref b), (1, .int (nI n)), (2, .long ((f_Model_moves_L33 W U Hh q1.1 q1.2.1 q1.2.2 (f_Model_moves_L2  mpr 6) lak k10).1)), (4, .int (nI k10)), (5, .int (nI k12))] [] (ov h b (modL b lane many items spare stat tape taped fk fp mat mst tok mval W past nac imgs kept gvn costs lst sets bst ((f_Model_moves_L79 W ((f_Model_moves_L33 W U Hh q1.1 q1.2.1 q1.2.2 (f_Model_moves_L2  mpr 6) lak k10).2.2.2.1) Hh ((f_Model_moves_L33 W U Hh q1.1 q1.2.1 q1.2.2 (f_Model_moves_L2  mpr 6) lak k10).2.1) ((f_Model_moves_L33 W U Hh q1.1 q1.2.1 q1.2.2 (f_Model_moves_L2  mpr 6) lak k10).2.2.1) q7 k12).1) ((f_Model_moves_L79 W ((f_Model_moves_L33 W U Hh q1.1 q1.2.1 q1.2.2 (f_Model_moves_L2  mpr 6) lak k10).2.2.2.1) Hh ((f_Model_moves_L33 W U Hh q1.1 q1.2.1 q1.2.2 (f_Model_moves_L2  mpr 6) lak k10).2.1) ((f_Model_moves_L33 W U Hh q1.1 q1.2.1 q1.2.2 (f_Model_moves_L2  mpr 6) lak k10).2.2.1) q7 k12).2.1) ((f_Model_moves_L33 W U Hh q1.1 q1.2.1 q1.2.2 (f_Model_moves_L2  mpr 6) lak k10).2.2.2.1) ((f_Model_moves_L79 W ((f_Model_moves_L33 W U Hh q1.1 q1.2.1 q1.2.2 (f_Model_moves_L2  mpr 6) lak k10).2.2.2.1) Hh ((f_Model_moves_L33 W U Hh q1.1 q1.2.1 q1.2.2 (f_Model_moves_L2  mpr 6) lak k10).2.1) ((f_Model_moves_L33 W U Hh q1.1 q1.2.1 q1.2.2 (f_Model_moves_L2  mpr 6) lak k10).2.2.1) q7 k12).2.2) trc ntr))) U ?_ ?_ 0 (Nat.zero_le _)
    rotate_left
    · intro k12 hk12 ih
      have hv_b : isV (ov h b (modL b lane many items spare stat tape taped fk fp mat mst tok mval W past nac imgs kept gvn costs lst sets bst ((f_Model_moves_L79 W ((f_Model_moves_L33 W U Hh q1.1 q1.2.1 q1.2.2 (f_Model_moves_L2  mpr 6) lak k10).2.2.2.1) Hh ((f_Model_moves_L33 W U Hh q1.1 q1.2.1 q1.2.2 (f_Model_moves_L2  mpr 6) lak k10).2.1) ((f_Model_moves_L33 W U Hh q1.1 q1.2.1 q1.2.2 (f_Model_moves_L2  mpr 6) lak k10).2.2.1) q7 k12).1) ((f_Model_moves_L79 W ((f_Model_moves_L33 W U Hh q1.1 q1.2.1 q1.2.2 (f_Model_moves_L2  mpr 6) lak k10).2.2.2.1) Hh ((f_Model_moves_L33 W U Hh q1.1 q1.2.1 q1.2.2 (f_Model_moves_L2  mpr 6) lak k10).2.1) ((f_Model_moves_L33 W U Hh q1.1 q1.2.1 q1.2.2 (f_Model_moves_L2  mpr 6) lak k10).2.2.1) q7 k12).2.1) ((f_Model_moves_L33 W U Hh q1.1 q1.2.1 q1.2.2 (f_Model_moves_L2  mpr 6) lak k10).2.2.2.1) ((f_Model_moves_L79 W ((f_Model_moves_L33 W U Hh q1.1 q1.2.1 q1.2.2 (f_Model_moves_L2  mpr 6) lak k10).2.2.2.1) Hh ((f_Model_moves_L33 W U Hh q1.1 q1.2.1 q1.2.2 (f_Model_moves_L2  mpr 6) lak k10).2.1) ((f_Model_moves_L33 W U Hh q1.1 q1.2.1 q1.2.2 (f_Model_moves_L2  mpr 6) lak k10).2.2.1) q7 k12).2.2) trc ntr)) b (modL b lane many items spare stat tape taped fk fp mat mst tok mval W past nac imgs kept gvn costs lst sets bst ((f_Model_moves_L79 W ((f_Model_moves_L33 W U Hh q1.1 q1.2.1 q1.2.2 (f_Model_moves_L2  mpr 6) lak k10).2.2.2.1) Hh ((f_Model_moves_L33 W U Hh q1.1 q1.2.1 q1.2.2 (f_Model_moves_L2  mpr 6) lak k10).2.1) ((f_Model_moves_L33 W U Hh q1.1 q1.2.1 q1.2.2 (f_Model_moves_L2  mpr 6) lak k10).2.2.1) q7 k12).1) ((f_Model_moves_L79 W ((f_Model_moves_L33 W U Hh q1.1 q1.2.1 q1.2.2 (f_Model_moves_L2  mpr 6) lak k10).2.2.2.1) Hh ((f_Model_moves_L33 W U Hh q1.1 q1.2.1 q1.2.2 (f_Model_moves_L2  mpr 6) lak k10).2.1) ((f_Model_moves_L33 W U Hh q1.1 q1.2.1 q1.2.2 (f_Model_moves_L2  mpr 6) lak k10).2.2.1) q7 k12).2.1) ((f_Model_moves_L33 W U Hh q1.1 q1.2.1 q1.2.2 (f_Model_moves_L2  mpr 6) lak k10).2.2.2.1) ((f_Model_moves_L79 W ((f_Model_moves_L33 W U Hh q1.1 q1.2.1 q1.2.2 (f_Model_moves_L2  mpr 6) lak k10).2.2.2.1) Hh ((f_Model_moves_L33 W U Hh q1.1 q1.2.1 q1.2.2 (f_Model_moves_L2  mpr 6) lak k10).2.1) ((f_Model_moves_L33 W U Hh q1.1 q1.2.1 q1.2.2 (f_Model_moves_L2  mpr 6) lak k10).2.2.1) q7 k12).2.2) trc ntr) := ov_isV
      refine r_iload X 4 dX8_moves_79 rfl ?_
      refine r_aload_n X 0 dX8_moves_81 rfl ?_
      refine gf_X8_25 X dX8_moves_82 (hv_b 0 _ rfl) rfl ?_
      refine r_iconst X (0 : Int32) dX8_moves_85 (by decide) ?_
      refine r_ialdv X (v := nI U) (k0 := 0) dX8_moves_86 (hv_b (6 + 0) _ (modL_W (by omega))) (by omega) (by decide) h0 ?_
      refine r_icmp_ge X 158 dX8_moves_87 rfl (fun z => absurd (nI_lt (a := k12) (b := U) (by omega) (by omega)) z) (fun _ => ?_)
      refine r_aload_n X 0 dX8_moves_90 rfl ?_
      refine r_aload_n X 0 dX8_moves_91 rfl ?_
      refine gf_X8_25 X dX8_moves_92 (hv_b 0 _ rfl) rfl ?_
      refine r_iload X 4 dX8_moves_95 rfl ?_
      refine cl_X8_272 X (by decide) dX8_moves_97 (Nat.le_of_ble_eq_true rfl) (hv_b 0 _ rfl) (c_Model_goesAlone  (by first | assumption | omega) (by first | assumption | omega) (by first | assumption | omega) (by first | assumption | omega)) ?_
      obtain ⟨q8, eq8⟩ : ∃ q, q = f_Model_goesAlone W ((f_Model_moves_L79 W ((f_Model_moves_L33 W U Hh q1.1 q1.2.1 q1.2.2 (f_Model_moves_L2  mpr 6) lak k10).2.2.2.1) Hh ((f_Model_moves_L33 W U Hh q1.1 q1.2.1 q1.2.2 (f_Model_moves_L2  mpr 6) lak k10).2.1) ((f_Model_moves_L33 W U Hh q1.1 q1.2.1 q1.2.2 (f_Model_moves_L2  mpr 6) lak k10).2.2.1) q7 k12).1) ((f_Model_moves_L79 W ((f_Model_moves_L33 W U Hh q1.1 q1.2.1 q1.2.2 (f_Model_moves_L2  mpr 6) lak k10).2.2.2.1) Hh ((f_Model_moves_L33 W U Hh q1.1 q1.2.1 q1.2.2 (f_Model_moves_L2  mpr 6) lak k10).2.1) ((f_Model_moves_L33 W U Hh q1.1 q1.2.1 q1.2.2 (f_Model_moves_L2  mpr 6) lak k10).2.2.1) q7 k12).2.1) ((f_Model_moves_L33 W U Hh q1.1 q1.2.1 q1.2.2 (f_Model_moves_L2  mpr 6) lak k10).2.2.2.1) k12 0 Hh := ⟨_, rfl⟩
      rw [← eq8]
      have hv_b : isV (ov h b (modL b lane many items spare stat tape taped fk fp mat mst tok mval W past nac imgs kept gvn costs lst sets bst q8.1 q8.2 ((f_Model_moves_L33 W U Hh q1.1 q1.2.1 q1.2.2 (f_Model_moves_L2  mpr 6) lak k10).2.2.2.1) ((f_Model_moves_L79 W ((f_Model_moves_L33 W U Hh q1.1 q1.2.1 q1.2.2 (f_Model_moves_L2  mpr 6) lak k10).2.2.2.1) Hh ((f_Model_moves_L33 W U Hh q1.1 q1.2.1 q1.2.2 (f_Model_moves_L2  mpr 6) lak k10).2.1) ((f_Model_moves_L33 W U Hh q1.1 q1.2.1 q1.2.2 (f_Model_moves_L2  mpr 6) lak k10).2.2.1) q7 k12).2.2) trc ntr)) b (modL b lane many items spare stat tape taped fk fp mat mst tok mval W past nac imgs kept gvn costs lst sets bst q8.1 q8.2 ((f_Model_moves_L33 W U Hh q1.1 q1.2.1 q1.2.2 (f_Model_moves_L2  mpr 6) lak k10).2.2.2.1) ((f_Model_moves_L79 W ((f_Model_moves_L33 W U Hh q1.1 q1.2.1 q1.2.2 (f_Model_moves_L2  mpr 6) lak k10).2.2.2.1) Hh ((f_Model_moves_L33 W U Hh q1.1 q1.2.1 q1.2.2 (f_Model_moves_L2  mpr 6) lak k10).2.1) ((f_Model_moves_L33 W U Hh q1.1 q1.2.1 q1.2.2 (f_Model_moves_L2  mpr 6) lak k10).2.2.1) q7 k12).2.2) trc ntr) := ov_isV
      refine r_iconst X (0 : Int32) dX8_moves_100 (by decide) ?_
      refine r_istore [(0, .ref b), (1, .int (nI n)), (2, .long ((f_Model_moves_L33 W U Hh q1.1 q1.2.1 q1.2.2 (f_Model_moves_L2  mpr 6) lak k10).1)), (4, .int (nI k10)), (5, .int (nI k12)), (6, .int (0 : Int32))] X dX8_moves_101 (by decide) rfl ?_
      refine loop_up (P := fun k13 => SW Z 103 [(0, .ref b), (1, .int (nI n)), (2, .long ((f_Model_moves_L33 W U Hh q1.1 q1.2.1 q1.2.2 (f_Model_moves_L2  mpr 6) lak k10).1)), (4, .int (nI k10)), (5, .int (nI k12)), (6, .int (nI k13))] [] (ov h b (modL b lane many items spare stat tape taped fk fp mat mst tok mval W past nac imgs kept gvn costs lst sets bst q8.1 q8.2 ((f_Model_moves_L33 W U Hh q1.1 q1.2.1 q1.2.2 (f_Model_moves_L2  mpr 6) lak k10).2.2.2.1) (f_Model_moves_L103 W q8.2 ((f_Model_moves_L33 W U Hh q1.1 q1.2.1 q1.2.2 (f_Model_moves_L2  mpr 6) lak k10).2.2.2.1) k12 ((f_Model_moves_L79 W ((f_Model_moves_L33 W U Hh q1.1 q1.2.1 q1.2.2 (f_Model_moves_L2  mpr 6) lak k10).2.2.2.1) Hh ((f_Model_moves_L33 W U Hh q1.1 q1.2.1 q1.2.2 (f_Model_moves_L2  mpr 6) lak k10).2.1) ((f_Model_moves_L33 W U Hh q1.1 q1.2.1 q1.2.2 (f_Model_moves_L2  mpr 6) lak k10).2.2.1) q7 k12).2.2) k13) trc ntr))) Hh ?_ ?_ 0 (Nat.zero_le _)
      rotate_left
      · intro k13 hk13 ih
        have hv_b : isV (ov h b (modL b lane many items spare stat tape taped fk fp mat mst tok mval W past nac imgs kept gvn costs lst sets bst q8.1 q8.2 ((f_Model_moves_L33 W U Hh q1.1 q1.2.1 q1.2.2 (f_Model_moves_L2  mpr 6) lak k10).2.2.2.1) (f_Model_moves_L103 W q8.2 ((f_Model_moves_L33 W U Hh q1.1 q1.2.1 q1.2.2 (f_Model_moves_L2  mpr 6) lak k10).2.2.2.1) k12 ((f_Model_moves_L79 W ((f_Model_moves_L33 W U Hh q1.1 q1.2.1 q1.2.2 (f_Model_moves_L2  mpr 6) lak k10).2.2.2.1) Hh ((f_Model_moves_L33 W U Hh q1.1 q1.2.1 q1.2.2 (f_Model_moves_L2  mpr 6) lak k10).2.1) ((f_Model_moves_L33 W U Hh q1.1 q1.2.1 q1.2.2 (f_Model_moves_L2  mpr 6) lak k10).2.2.1) q7 k12).2.2) k13) trc ntr)) b (modL b lane many items spare stat tape taped fk fp mat mst tok mval W past nac imgs kept gvn costs lst sets bst q8.1 q8.2 ((f_Model_moves_L33 W U Hh q1.1 q1.2.1 q1.2.2 (f_Model_moves_L2  mpr 6) lak k10).2.2.2.1) (f_Model_moves_L103 W q8.2 ((f_Model_moves_L33 W U Hh q1.1 q1.2.1 q1.2.2 (f_Model_moves_L2  mpr 6) lak k10).2.2.2.1) k12 ((f_Model_moves_L79 W ((f_Model_moves_L33 W U Hh q1.1 q1.2.1 q1.2.2 (f_Model_moves_L2  mpr 6) lak k10).2.2.2.1) Hh ((f_Model_moves_L33 W U Hh q1.1 q1.2.1 q1.2.2 (f_Model_moves_L2  mpr 6) lak k10).2.1) ((f_Model_moves_L33 W U Hh q1.1 q1.2.1 q1.2.2 (f_Model_moves_L2  mpr 6) lak k10).2.2.1) q7 k12).2.2) k13) trc ntr) := ov_isV
        refine r_iload X 5 dX8_moves_103 rfl ?_
        refine r_aload_n X 0 dX8_moves_105 rfl ?_
        refine gf_X8_25 X dX8_moves_106 (hv_b 0 _ rfl) rfl ?_
        refine r_iconst X (1 : Int32) dX8_moves_109 (by decide) ?_
        refine r_ialdv X (v := nI Hh) (k0 := 1) dX8_moves_110 (hv_b (6 + 0) _ (modL_W (by omega))) (by omega) (by decide) h1 ?_
        refine r_icmp_ge X 152 dX8_moves_111 rfl (fun z => absurd (nI_lt (a := k13) (b := Hh) (by omega) (by omega)) z) (fun _ => ?_)
        refine r_aload_n X 0 dX8_moves_114 rfl ?_
        refine gf_X8_60 X dX8_moves_115 (hv_b 0 _ rfl) rfl ?_
        refine r_iload X 5 dX8_moves_118 rfl ?_
        refine r_dup2 X dX8_moves_120 rfl rfl ?_
        refine r_laldn X (k0 := k13) dX8_moves_121 (hv_b 17 _ rfl) (by omega) (by decide) ?_
        refine r_aload_n X 0 dX8_moves_122 rfl ?_
        refine gf_X8_25 X dX8_moves_123 (hv_b 0 _ rfl) rfl ?_
        refine r_iload X 4 dX8_moves_126 rfl ?_
        refine r_aload_n X 0 dX8_moves_128 rfl ?_
        refine gf_X8_267 X dX8_moves_129 (hv_b 0 _ rfl) rfl ?_
        refine r_iload X 5 dX8_moves_132 rfl ?_
        refine r_aload_n X 0 dX8_moves_134 rfl ?_
        refine gf_X8_56 X dX8_moves_135 (hv_b 0 _ rfl) rfl ?_
        refine r_iload X 5 dX8_moves_138 rfl ?_
        refine r_laldn X (k0 := k13) dX8_moves_140 (hv_b 16 _ rfl) (by omega) (by decide) ?_
        refine cl_X8_259 X (by decide) dX8_moves_141 (Nat.le_of_ble_eq_true rfl) (c_Model_givesAlone (isV1 (hv_b (6 + 0) _ (modL_W (by omega)))) (by first | assumption | omega)) ?_
        refine r_lsub X dX8_moves_144 ?_
        refine r_lastn X (k0 := k13) dX8_moves_145 (hv_b 17 _ rfl) (by omega) (by first | decide | omega) ?_
        refine SW.heq (h2 := (ov h b (modL b lane many items spare stat tape taped fk fp mat mst tok mval W past nac imgs kept gvn costs lst sets bst q8.1 q8.2 ((f_Model_moves_L33 W U Hh q1.1 q1.2.1 q1.2.2 (f_Model_moves_L2  mpr 6) lak k10).2.2.2.1) (vp_updL (f_Model_moves_L103 W q8.2 ((f_Model_moves_L33 W U Hh q1.1 q1.2.1 q1.2.2 (f_Model_moves_L2  mpr 6) lak k10).2.2.2.1) k12 ((f_Model_moves_L79 W ((f_Model_moves_L33 W U Hh q1.1 q1.2.1 q1.2.2 (f_Model_moves_L2  mpr 6) lak k10).2.2.2.1) Hh ((f_Model_moves_L33 W U Hh q1.1 q1.2.1 q1.2.2 (f_Model_moves_L2  mpr 6) lak k10).2.1) ((f_Model_moves_L33 W U Hh q1.1 q1.2.1 q1.2.2 (f_Model_moves_L2  mpr 6) lak k10).2.2.1) q7 k12).2.2) k13) k13 (((f_Model_moves_L103 W q8.2 ((f_Model_moves_L33 W U Hh q1.1 q1.2.1 q1.2.2 (f_Model_moves_L2  mpr 6) lak k10).2.2.2.1) k12 ((f_Model_moves_L79 W ((f_Model_moves_L33 W U Hh q1.1 q1.2.1 q1.2.2 (f_Model_moves_L2  mpr 6) lak k10).2.2.2.1) Hh ((f_Model_moves_L33 W U Hh q1.1 q1.2.1 q1.2.2 (f_Model_moves_L2  mpr 6) lak k10).2.1) ((f_Model_moves_L33 W U Hh q1.1 q1.2.1 q1.2.2 (f_Model_moves_L2  mpr 6) lak k10).2.2.1) q7 k12).2.2) k13) k13) - (f_Model_givesAlone (W 0) k12 q8.2 (nI k13) (((f_Model_moves_L33 W U Hh q1.1 q1.2.1 q1.2.2 (f_Model_moves_L2  mpr 6) lak k10).2.2.2.1) k13)))) trc ntr))) (ov_up 17 (Nat.le_of_ble_eq_true rfl) rfl) ?_
        have hv_b : isV (ov h b (modL b lane many items spare stat tape taped fk fp mat mst tok mval W past nac imgs kept gvn costs lst sets bst q8.1 q8.2 ((f_Model_moves_L33 W U Hh q1.1 q1.2.1 q1.2.2 (f_Model_moves_L2  mpr 6) lak k10).2.2.2.1) (vp_updL (f_Model_moves_L103 W q8.2 ((f_Model_moves_L33 W U Hh q1.1 q1.2.1 q1.2.2 (f_Model_moves_L2  mpr 6) lak k10).2.2.2.1) k12 ((f_Model_moves_L79 W ((f_Model_moves_L33 W U Hh q1.1 q1.2.1 q1.2.2 (f_Model_moves_L2  mpr 6) lak k10).2.2.2.1) Hh ((f_Model_moves_L33 W U Hh q1.1 q1.2.1 q1.2.2 (f_Model_moves_L2  mpr 6) lak k10).2.1) ((f_Model_moves_L33 W U Hh q1.1 q1.2.1 q1.2.2 (f_Model_moves_L2  mpr 6) lak k10).2.2.1) q7 k12).2.2) k13) k13 (((f_Model_moves_L103 W q8.2 ((f_Model_moves_L33 W U Hh q1.1 q1.2.1 q1.2.2 (f_Model_moves_L2  mpr 6) lak k10).2.2.2.1) k12 ((f_Model_moves_L79 W ((f_Model_moves_L33 W U Hh q1.1 q1.2.1 q1.2.2 (f_Model_moves_L2  mpr 6) lak k10).2.2.2.1) Hh ((f_Model_moves_L33 W U Hh q1.1 q1.2.1 q1.2.2 (f_Model_moves_L2  mpr 6) lak k10).2.1) ((f_Model_moves_L33 W U Hh q1.1 q1.2.1 q1.2.2 (f_Model_moves_L2  mpr 6) lak k10).2.2.1) q7 k12).2.2) k13) k13) - (f_Model_givesAlone (W 0) k12 q8.2 (nI k13) (((f_Model_moves_L33 W U Hh q1.1 q1.2.1 q1.2.2 (f_Model_moves_L2  mpr 6) lak k10).2.2.2.1) k13)))) trc ntr)) b (modL b lane many items spare stat tape taped fk fp mat mst tok mval W past nac imgs kept gvn costs lst sets bst q8.1 q8.2 ((f_Model_moves_L33 W U Hh q1.1 q1.2.1 q1.2.2 (f_Model_moves_L2  mpr 6) lak k10).2.2.2.1) (vp_updL (f_Model_moves_L103 W q8.2 ((f_Model_moves_L33 W U Hh q1.1 q1.2.1 q1.2.2 (f_Model_moves_L2  mpr 6) lak k10).2.2.2.1) k12 ((f_Model_moves_L79 W ((f_Model_moves_L33 W U Hh q1.1 q1.2.1 q1.2.2 (f_Model_moves_L2  mpr 6) lak k10).2.2.2.1) Hh ((f_Model_moves_L33 W U Hh q1.1 q1.2.1 q1.2.2 (f_Model_moves_L2  mpr 6) lak k10).2.1) ((f_Model_moves_L33 W U Hh q1.1 q1.2.1 q1.2.2 (f_Model_moves_L2  mpr 6) lak k10).2.2.1) q7 k12).2.2) k13) k13 (((f_Model_moves_L103 W q8.2 ((f_Model_moves_L33 W U Hh q1.1 q1.2.1 q1.2.2 (f_Model_moves_L2  mpr 6) lak k10).2.2.2.1) k12 ((f_Model_moves_L79 W ((f_Model_moves_L33 W U Hh q1.1 q1.2.1 q1.2.2 (f_Model_moves_L2  mpr 6) lak k10).2.2.2.1) Hh ((f_Model_moves_L33 W U Hh q1.1 q1.2.1 q1.2.2 (f_Model_moves_L2  mpr 6) lak k10).2.1) ((f_Model_moves_L33 W U Hh q1.1 q1.2.1 q1.2.2 (f_Model_moves_L2  mpr 6) lak k10).2.2.1) q7 k12).2.2) k13) k13) - (f_Model_givesAlone (W 0) k12 q8.2 (nI k13) (((f_Model_moves_L33 W U Hh q1.1 q1.2.1 q1.2.2 (f_Model_moves_L2  mpr 6) lak k10).2.2.2.1) k13)))) trc ntr) := ov_isV
        refine r_iinc [(0, .ref b), (1, .int (nI n)), (2, .long ((f_Model_moves_L33 W U Hh q1.1 q1.2.1 q1.2.2 (f_Model_moves_L2  mpr 6) lak k10).1)), (4, .int (nI k10)), (5, .int (nI k12)), (6, .int (nI (k13 + 1)))] X (nI (k13 + 1)) 5 dX8_moves_146 rfl (nI_succ _).symm (by decide) rfl ?_
        refine r_goto X 103 dX8_moves_149 rfl ?_
        exact ih
      obtain ⟨q9, eq9⟩ : ∃ q, q = f_Model_moves_L103 W q8.2 ((f_Model_moves_L33 W U Hh q1.1 q1.2.1 q1.2.2 (f_Model_moves_L2  mpr 6) lak k10).2.2.2.1) k12 ((f_Model_moves_L79 W ((f_Model_moves_L33 W U Hh q1.1 q1.2.1 q1.2.2 (f_Model_moves_L2  mpr 6) lak k10).2.2.2.1) Hh ((f_Model_moves_L33 W U Hh q1.1 q1.2.1 q1.2.2 (f_Model_moves_L2  mpr 6) lak k10).2.1) ((f_Model_moves_L33 W U Hh q1.1 q1.2.1 q1.2.2 (f_Model_moves_L2  mpr 6) lak k10).2.2.1) q7 k12).2.2) Hh := ⟨_, rfl⟩
      rw [← eq9]
      have hv_b : isV (ov h b (modL b lane many items spare stat tape taped fk fp mat mst tok mval W past nac imgs kept gvn costs lst sets bst q8.1 q8.2 ((f_Model_moves_L33 W U Hh q1.1 q1.2.1 q1.2.2 (f_Model_moves_L2  mpr 6) lak k10).2.2.2.1) q9 trc ntr)) b (modL b lane many items spare stat tape taped fk fp mat mst tok mval W past nac imgs kept gvn costs lst sets bst q8.1 q8.2 ((f_Model_moves_L33 W U Hh q1.1 q1.2.1 q1.2.2 (f_Model_moves_L2  mpr 6) lak k10).2.2.2.1) q9 trc ntr) := ov_isV
      refine r_iload X 5 dX8_moves_103 rfl ?_
      refine r_aload_n X 0 dX8_moves_105 rfl ?_
      refine gf_X8_25 X dX8_moves_106 (hv_b 0 _ rfl) rfl ?_
      refine r_iconst X (1 : Int32) dX8_moves_109 (by decide) ?_
      refine r_ialdv X (v := nI Hh) (k0 := 1) dX8_moves_110 (hv_b (6 + 0) _ (modL_W (by omega))) (by omega) (by decide) h1 ?_
      refine r_icmp_ge X 152 dX8_moves_111 rfl (fun _ => ?_) (fun z => absurd z (nI_nlt (a := Hh) (b := Hh) (by omega) (by omega)))
      refine r_iinc [(0, .ref b), (1, .int (nI n)), (2, .long ((f_Model_moves_L33 W U Hh q1.1 q1.2.1 q1.2.2 (f_Model_moves_L2  mpr 6) lak k10).1)), (4, .int (nI k10)), (5, .int (nI (k12 + 1))), (6, .int (nI Hh))] X (nI (k12 + 1)) 4 dX8_moves_152 rfl (nI_succ _).symm (by decide) rfl ?_
      refine r_goto X 79 dX8_moves_155 rfl ?_
      refine SW.pick [0, 1, 2, 3, 4] [(0, .ref b), (1, .int (nI n)), (2, .long ((f_Model_moves_L33 W U Hh q1.1 q1.2.1 q1.2.2 (f_Model_moves_L2  mpr 6) lak k10).1)), (4, .int (nI k10)), (5, .int (nI (k12 + 1)))] rfl ?_
      subst eq9
      subst eq8
      exact ih
    obtain ⟨q10, eq10⟩ : ∃ q, q = f_Model_moves_L79 W ((f_Model_moves_L33 W U Hh q1.1 q1.2.1 q1.2.2 (f_Model_moves_L2  mpr 6) lak k10).2.2.2.1) Hh ((f_Model_moves_L33 W U Hh q1.1 q1.2.1 q1.2.2 (f_Model_moves_L2  mpr 6) lak k10).2.1) ((f_Model_moves_L33 W U Hh q1.1 q1.2.1 q1.2.2 (f_Model_moves_L2  mpr 6) lak k10).2.2.1) q7 U := ⟨_, rfl⟩
    rw [← eq10]
    have hv_b : isV (ov h b (modL b lane many items spare stat tape taped fk fp mat mst tok mval W past nac imgs kept gvn costs lst sets bst q10.1 q10.2.1 ((f_Model_moves_L33 W U Hh q1.1 q1.2.1 q1.2.2 (f_Model_moves_L2  mpr 6) lak k10).2.2.2.1) q10.2.2 trc ntr)) b (modL b lane many items spare stat tape taped fk fp mat mst tok mval W past nac imgs kept gvn costs lst sets bst q10.1 q10.2.1 ((f_Model_moves_L33 W U Hh q1.1 q1.2.1 q1.2.2 (f_Model_moves_L2  mpr 6) lak k10).2.2.2.1) q10.2.2 trc ntr) := ov_isV
    refine r_iload X 4 dX8_moves_79 rfl ?_
    refine r_aload_n X 0 dX8_moves_81 rfl ?_
    refine gf_X8_25 X dX8_moves_82 (hv_b 0 _ rfl) rfl ?_
    refine r_iconst X (0 : Int32) dX8_moves_85 (by decide) ?_
    refine r_ialdv X (v := nI U) (k0 := 0) dX8_moves_86 (hv_b (6 + 0) _ (modL_W (by omega))) (by omega) (by decide) h0 ?_
    refine r_icmp_ge X 158 dX8_moves_87 rfl (fun _ => ?_) (fun z => absurd z (nI_nlt (a := U) (b := U) (by omega) (by omega)))
    refine r_iconst X (0 : Int32) dX8_moves_158 (by decide) ?_
    refine r_istore [(0, .ref b), (1, .int (nI n)), (2, .long ((f_Model_moves_L33 W U Hh q1.1 q1.2.1 q1.2.2 (f_Model_moves_L2  mpr 6) lak k10).1)), (4, .int (nI k10)), (5, .int (0 : Int32))] X dX8_moves_159 (by decide) rfl ?_
    refine loop_up (P := fun k14 => SW Z 161 [(0, .ref b), (1, .int (nI n)), (2, .long ((f_Model_moves_L33 W U Hh q1.1 q1.2.1 q1.2.2 (f_Model_moves_L2  mpr 6) lak k10).1)), (4, .int (nI k10)), (5, .int (nI k14))] [] (ov h b (modL b lane many items spare stat tape taped fk fp mat mst tok mval W past nac imgs kept gvn costs lst sets bst q10.1 q10.2.1 (f_Model_moves_L161 q10.2.2 ((f_Model_moves_L33 W U Hh q1.1 q1.2.1 q1.2.2 (f_Model_moves_L2  mpr 6) lak k10).2.2.2.1) k14) q10.2.2 trc ntr))) Hh ?_ ?_ 0 (Nat.zero_le _)
    rotate_left
    · intro k14 hk14 ih
      have hv_b : isV (ov h b (modL b lane many items spare stat tape taped fk fp mat mst tok mval W past nac imgs kept gvn costs lst sets bst q10.1 q10.2.1 (f_Model_moves_L161 q10.2.2 ((f_Model_moves_L33 W U Hh q1.1 q1.2.1 q1.2.2 (f_Model_moves_L2  mpr 6) lak k10).2.2.2.1) k14) q10.2.2 trc ntr)) b (modL b lane many items spare stat tape taped fk fp mat mst tok mval W past nac imgs kept gvn costs lst sets bst q10.1 q10.2.1 (f_Model_moves_L161 q10.2.2 ((f_Model_moves_L33 W U Hh q1.1 q1.2.1 q1.2.2 (f_Model_moves_L2  mpr 6) lak k10).2.2.2.1) k14) q10.2.2 trc ntr) := ov_isV
      refine r_iload X 4 dX8_moves_161 rfl ?_
      refine r_aload_n X 0 dX8_moves_163 rfl ?_
      refine gf_X8_25 X dX8_moves_164 (hv_b 0 _ rfl) rfl ?_
      refine r_iconst X (1 : Int32) dX8_moves_167 (by decide) ?_
      refine r_ialdv X (v := nI Hh) (k0 := 1) dX8_moves_168 (hv_b (6 + 0) _ (modL_W (by omega))) (by omega) (by decide) h1 ?_
      refine r_icmp_ge X 225 dX8_moves_169 rfl (fun z => absurd (nI_lt (a := k14) (b := Hh) (by omega) (by omega)) z) (fun _ => ?_)
      refine r_aload_n X 0 dX8_moves_172 rfl ?_
      refine gf_X8_56 X dX8_moves_173 (hv_b 0 _ rfl) rfl ?_
      refine r_iload X 4 dX8_moves_176 rfl ?_
      refine r_dup2 X dX8_moves_178 rfl rfl ?_
      refine r_laldn X (k0 := k14) dX8_moves_179 (hv_b 16 _ rfl) (by omega) (by decide) ?_
      refine r_aload_n X 0 dX8_moves_180 rfl ?_
      refine gf_X8_60 X dX8_moves_181 (hv_b 0 _ rfl) rfl ?_
      refine r_iload X 4 dX8_moves_184 rfl ?_
      refine r_laldn X (k0 := k14) dX8_moves_186 (hv_b 17 _ rfl) (by omega) (by decide) ?_
      refine r_ladd X dX8_moves_187 ?_
      refine r_lastn X (k0 := k14) dX8_moves_188 (hv_b 16 _ rfl) (by omega) (by first | decide | omega) ?_
      refine SW.heq (h2 := (ov h b (modL b lane many items spare stat tape taped fk fp mat mst tok mval W past nac imgs kept gvn costs lst sets bst q10.1 q10.2.1 (vp_updL (f_Model_moves_L161 q10.2.2 ((f_Model_moves_L33 W U Hh q1.1 q1.2.1 q1.2.2 (f_Model_moves_L2  mpr 6) lak k10).2.2.2.1) k14) k14 (((f_Model_moves_L161 q10.2.2 ((f_Model_moves_L33 W U Hh q1.1 q1.2.1 q1.2.2 (f_Model_moves_L2  mpr 6) lak k10).2.2.2.1) k14) k14) + (q10.2.2 k14))) q10.2.2 trc ntr))) (ov_up 16 (Nat.le_of_ble_eq_true rfl) rfl) ?_
      have hv_b : isV (ov h b (modL b lane many items spare stat tape taped fk fp mat mst tok mval W past nac imgs kept gvn costs lst sets bst q10.1 q10.2.1 (vp_updL (f_Model_moves_L161 q10.2.2 ((f_Model_moves_L33 W U Hh q1.1 q1.2.1 q1.2.2 (f_Model_moves_L2  mpr 6) lak k10).2.2.2.1) k14) k14 (((f_Model_moves_L161 q10.2.2 ((f_Model_moves_L33 W U Hh q1.1 q1.2.1 q1.2.2 (f_Model_moves_L2  mpr 6) lak k10).2.2.2.1) k14) k14) + (q10.2.2 k14))) q10.2.2 trc ntr)) b (modL b lane many items spare stat tape taped fk fp mat mst tok mval W past nac imgs kept gvn costs lst sets bst q10.1 q10.2.1 (vp_updL (f_Model_moves_L161 q10.2.2 ((f_Model_moves_L33 W U Hh q1.1 q1.2.1 q1.2.2 (f_Model_moves_L2  mpr 6) lak k10).2.2.2.1) k14) k14 (((f_Model_moves_L161 q10.2.2 ((f_Model_moves_L33 W U Hh q1.1 q1.2.1 q1.2.2 (f_Model_moves_L2  mpr 6) lak k10).2.2.2.1) k14) k14) + (q10.2.2 k14))) q10.2.2 trc ntr) := ov_isV
      refine r_aload_n X 0 dX8_moves_189 rfl ?_
      refine gf_X8_56 X dX8_moves_190 (hv_b 0 _ rfl) rfl ?_
      refine r_iload X 4 dX8_moves_193 rfl ?_
      refine r_aload_n X 0 dX8_moves_195 rfl ?_
      refine gf_X8_56 X dX8_moves_196 (hv_b 0 _ rfl) rfl ?_
      refine r_iload X 4 dX8_moves_199 rfl ?_
      refine r_laldn X (k0 := k14) dX8_moves_201 (hv_b 16 _ rfl) (by omega) (by decide) ?_
      refine r_lconst X (0 : Int64) dX8_moves_202 (by decide) ?_
      refine m_join (P := SW Z 218 [(0, .ref b), (1, .int (nI n)), (2, .long ((f_Model_moves_L33 W U Hh q1.1 q1.2.1 q1.2.2 (f_Model_moves_L2  mpr 6) lak k10).1)), (4, .int (nI k10)), (5, .int (nI k14))] [.long (if ((vp_updL (f_Model_moves_L161 q10.2.2 ((f_Model_moves_L33 W U Hh q1.1 q1.2.1 q1.2.2 (f_Model_moves_L2  mpr 6) lak k10).2.2.2.1) k14) k14 (((f_Model_moves_L161 q10.2.2 ((f_Model_moves_L33 W U Hh q1.1 q1.2.1 q1.2.2 (f_Model_moves_L2  mpr 6) lak k10).2.2.2.1) k14) k14) + (q10.2.2 k14))) k14) < (0 : Int64) then (0 : Int64) else (vp_updL (f_Model_moves_L161 q10.2.2 ((f_Model_moves_L33 W U Hh q1.1 q1.2.1 q1.2.2 (f_Model_moves_L2  mpr 6) lak k10).2.2.2.1) k14) k14 (((f_Model_moves_L161 q10.2.2 ((f_Model_moves_L33 W U Hh q1.1 q1.2.1 q1.2.2 (f_Model_moves_L2  mpr 6) lak k10).2.2.2.1) k14) k14) + (q10.2.2 k14))) k14), .int (nI k14), .ref (b + 16)] (ov h b (modL b lane many items spare stat tape taped fk fp mat mst tok mval W past nac imgs kept gvn costs lst sets bst q10.1 q10.2.1 (vp_updL (f_Model_moves_L161 q10.2.2 ((f_Model_moves_L33 W U Hh q1.1 q1.2.1 q1.2.2 (f_Model_moves_L2  mpr 6) lak k10).2.2.2.1) k14) k14 (((f_Model_moves_L161 q10.2.2 ((f_Model_moves_L33 W U Hh q1.1 q1.2.1 q1.2.2 (f_Model_moves_L2  mpr 6) lak k10).2.2.2.1) k14) k14) + (q10.2.2 k14))) q10.2.2 trc ntr))) (fun K => ?_) ?_
      · refine r_lcmp_ge X 211 dX8_moves_203 dX8_moves_204 rfl (fun c15 => ?_) (fun c15 => ?_)
        · skip
          refine r_aload_n X 0 dX8_moves_211 rfl ?_
          refine gf_X8_56 X dX8_moves_212 (hv_b 0 _ rfl) rfl ?_
          refine r_iload X 4 dX8_moves_215 rfl ?_
          refine r_laldn X (k0 := k14) dX8_moves_217 (hv_b 16 _ rfl) (by omega) (by decide) ?_
          try simp only [if_neg c15] at K ⊢
          exact K
        · skip
          refine r_lconst X (0 : Int64) dX8_moves_207 (by decide) ?_
          refine r_goto X 218 dX8_moves_208 rfl ?_
          try simp only [if_pos c15] at K ⊢
          exact K
      have hv_b : isV (ov h b (modL b lane many items spare stat tape taped fk fp mat mst tok mval W past nac imgs kept gvn costs lst sets bst q10.1 q10.2.1 (vp_updL (f_Model_moves_L161 q10.2.2 ((f_Model_moves_L33 W U Hh q1.1 q1.2.1 q1.2.2 (f_Model_moves_L2  mpr 6) lak k10).2.2.2.1) k14) k14 (((f_Model_moves_L161 q10.2.2 ((f_Model_moves_L33 W U Hh q1.1 q1.2.1 q1.2.2 (f_Model_moves_L2  mpr 6) lak k10).2.2.2.1) k14) k14) + (q10.2.2 k14))) q10.2.2 trc ntr)) b (modL b lane many items spare stat tape taped fk fp mat mst tok mval W past nac imgs kept gvn costs lst sets bst q10.1 q10.2.1 (vp_updL (f_Model_moves_L161 q10.2.2 ((f_Model_moves_L33 W U Hh q1.1 q1.2.1 q1.2.2 (f_Model_moves_L2  mpr 6) lak k10).2.2.2.1) k14) k14 (((f_Model_moves_L161 q10.2.2 ((f_Model_moves_L33 W U Hh q1.1 q1.2.1 q1.2.2 (f_Model_moves_L2  mpr 6) lak k10).2.2.2.1) k14) k14) + (q10.2.2 k14))) q10.2.2 trc ntr) := ov_isV
      refine r_lastn X (k0 := k14) dX8_moves_218 (hv_b 16 _ rfl) (by omega) (by first | decide | omega) ?_
      refine SW.heq (h2 := (ov h b (modL b lane many items spare stat tape taped fk fp mat mst tok mval W past nac imgs kept gvn costs lst sets bst q10.1 q10.2.1 (vp_updL (vp_updL (f_Model_moves_L161 q10.2.2 ((f_Model_moves_L33 W U Hh q1.1 q1.2.1 q1.2.2 (f_Model_moves_L2  mpr 6) lak k10).2.2.2.1) k14) k14 (((f_Model_moves_L161 q10.2.2 ((f_Model_moves_L33 W U Hh q1.1 q1.2.1 q1.2.2 (f_Model_moves_L2  mpr 6) lak k10).2.2.2.1) k14) k14) + (q10.2.2 k14))) k14 (if ((vp_updL (f_Model_moves_L161 q10.2.2 ((f_Model_moves_L33 W U Hh q1.1 q1.2.1 q1.2.2 (f_Model_moves_L2  mpr 6) lak k10).2.2.2.1) k14) k14 (((f_Model_moves_L161 q10.2.2 ((f_Model_moves_L33 W U Hh q1.1 q1.2.1 q1.2.2 (f_Model_moves_L2  mpr 6) lak k10).2.2.2.1) k14) k14) + (q10.2.2 k14))) k14) < (0 : Int64) then (0 : Int64) else (vp_updL (f_Model_moves_L161 q10.2.2 ((f_Model_moves_L33 W U Hh q1.1 q1.2.1 q1.2.2 (f_Model_moves_L2  mpr 6) lak k10).2.2.2.1) k14) k14 (((f_Model_moves_L161 q10.2.2 ((f_Model_moves_L33 W U Hh q1.1 q1.2.1 q1.2.2 (f_Model_moves_L2  mpr 6) lak k10).2.2.2.1) k14) k14) + (q10.2.2 k14))) k14)) q10.2.2 trc ntr))) (ov_up 16 (Nat.le_of_ble_eq_true rfl) rfl) ?_
      have hv_b : isV (ov h b (modL b lane many items spare stat tape taped fk fp mat mst tok mval W past nac imgs kept gvn costs lst sets bst q10.1 q10.2.1 (vp_updL (vp_updL (f_Model_moves_L161 q10.2.2 ((f_Model_moves_L33 W U Hh q1.1 q1.2.1 q1.2.2 (f_Model_moves_L2  mpr 6) lak k10).2.2.2.1) k14) k14 (((f_Model_moves_L161 q10.2.2 ((f_Model_moves_L33 W U Hh q1.1 q1.2.1 q1.2.2 (f_Model_moves_L2  mpr 6) lak k10).2.2.2.1) k14) k14) + (q10.2.2 k14))) k14 (if ((vp_updL (f_Model_moves_L161 q10.2.2 ((f_Model_moves_L33 W U Hh q1.1 q1.2.1 q1.2.2 (f_Model_moves_L2  mpr 6) lak k10).2.2.2.1) k14) k14 (((f_Model_moves_L161 q10.2.2 ((f_Model_moves_L33 W U Hh q1.1 q1.2.1 q1.2.2 (f_Model_moves_L2  mpr 6) lak k10).2.2.2.1) k14) k14) + (q10.2.2 k14))) k14) < (0 : Int64) then (0 : Int64) else (vp_updL (f_Model_moves_L161 q10.2.2 ((f_Model_moves_L33 W U Hh q1.1 q1.2.1 q1.2.2 (f_Model_moves_L2  mpr 6) lak k10).2.2.2.1) k14) k14 (((f_Model_moves_L161 q10.2.2 ((f_Model_moves_L33 W U Hh q1.1 q1.2.1 q1.2.2 (f_Model_moves_L2  mpr 6) lak k10).2.2.2.1) k14) k14) + (q10.2.2 k14))) k14)) q10.2.2 trc ntr)) b (modL b lane many items spare stat tape taped fk fp mat mst tok mval W past nac imgs kept gvn costs lst sets bst q10.1 q10.2.1 (vp_updL (vp_updL (f_Model_moves_L161 q10.2.2 ((f_Model_moves_L33 W U Hh q1.1 q1.2.1 q1.2.2 (f_Model_moves_L2  mpr 6) lak k10).2.2.2.1) k14) k14 (((f_Model_moves_L161 q10.2.2 ((f_Model_moves_L33 W U Hh q1.1 q1.2.1 q1.2.2 (f_Model_moves_L2  mpr 6) lak k10).2.2.2.1) k14) k14) + (q10.2.2 k14))) k14 (if ((vp_updL (f_Model_moves_L161 q10.2.2 ((f_Model_moves_L33 W U Hh q1.1 q1.2.1 q1.2.2 (f_Model_moves_L2  mpr 6) lak k10).2.2.2.1) k14) k14 (((f_Model_moves_L161 q10.2.2 ((f_Model_moves_L33 W U Hh q1.1 q1.2.1 q1.2.2 (f_Model_moves_L2  mpr 6) lak k10).2.2.2.1) k14) k14) + (q10.2.2 k14))) k14) < (0 : Int64) then (0 : Int64) else (vp_updL (f_Model_moves_L161 q10.2.2 ((f_Model_moves_L33 W U Hh q1.1 q1.2.1 q1.2.2 (f_Model_moves_L2  mpr 6) lak k10).2.2.2.1) k14) k14 (((f_Model_moves_L161 q10.2.2 ((f_Model_moves_L33 W U Hh q1.1 q1.2.1 q1.2.2 (f_Model_moves_L2  mpr 6) lak k10).2.2.2.1) k14) k14) + (q10.2.2 k14))) k14)) q10.2.2 trc ntr) := ov_isV
      refine r_iinc [(0, .ref b), (1, .int (nI n)), (2, .long ((f_Model_moves_L33 W U Hh q1.1 q1.2.1 q1.2.2 (f_Model_moves_L2  mpr 6) lak k10).1)), (4, .int (nI k10)), (5, .int (nI (k14 + 1)))] X (nI (k14 + 1)) 4 dX8_moves_219 rfl (nI_succ _).symm (by decide) rfl ?_
      refine r_goto X 161 dX8_moves_222 rfl ?_
      exact ih
    obtain ⟨q11, eq11⟩ : ∃ q, q = f_Model_moves_L161 q10.2.2 ((f_Model_moves_L33 W U Hh q1.1 q1.2.1 q1.2.2 (f_Model_moves_L2  mpr 6) lak k10).2.2.2.1) Hh := ⟨_, rfl⟩
    rw [← eq11]
    have hv_b : isV (ov h b (modL b lane many items spare stat tape taped fk fp mat mst tok mval W past nac imgs kept gvn costs lst sets bst q10.1 q10.2.1 q11 q10.2.2 trc ntr)) b (modL b lane many items spare stat tape taped fk fp mat mst tok mval W past nac imgs kept gvn costs lst sets bst q10.1 q10.2.1 q11 q10.2.2 trc ntr) := ov_isV
    refine r_iload X 4 dX8_moves_161 rfl ?_
    refine r_aload_n X 0 dX8_moves_163 rfl ?_
    refine gf_X8_25 X dX8_moves_164 (hv_b 0 _ rfl) rfl ?_
    refine r_iconst X (1 : Int32) dX8_moves_167 (by decide) ?_
    refine r_ialdv X (v := nI Hh) (k0 := 1) dX8_moves_168 (hv_b (6 + 0) _ (modL_W (by omega))) (by omega) (by decide) h1 ?_
    refine r_icmp_ge X 225 dX8_moves_169 rfl (fun _ => ?_) (fun z => absurd z (nI_nlt (a := Hh) (b := Hh) (by omega) (by omega)))
    refine r_aload_n X 0 dX8_moves_225 rfl ?_
    refine r_aload_n X 0 dX8_moves_226 rfl ?_
    refine gf_X8_25 X dX8_moves_227 (hv_b 0 _ rfl) rfl ?_
    refine cl_X8_277 X (by decide) dX8_moves_230 (Nat.le_of_ble_eq_true rfl) (hv_b 0 _ rfl) (c_Model_boundOf  (by first | assumption | omega) (by first | assumption | omega) (by first | assumption | omega) (by first | assumption | omega) (by first | assumption | omega)) ?_
    obtain ⟨q12, eq12⟩ : ∃ q, q = f_Model_boundOf W q10.1 q10.2.1 q11 0 U Hh := ⟨_, rfl⟩
    rw [← eq12]
    have hv_b : isV (ov h b (modL b lane many items spare stat tape taped fk fp mat mst tok mval W past nac imgs kept gvn costs lst sets bst q12.2.1 q12.2.2 q11 q10.2.2 trc ntr)) b (modL b lane many items spare stat tape taped fk fp mat mst tok mval W past nac imgs kept gvn costs lst sets bst q12.2.1 q12.2.2 q11 q10.2.2 trc ntr) := ov_isV
    refine r_lstore [(0, .ref b), (1, .int (nI n)), (2, .long ((f_Model_moves_L33 W U Hh q1.1 q1.2.1 q1.2.2 (f_Model_moves_L2  mpr 6) lak k10).1)), (4, .int (nI k10)), (5, .long q12.1)] X dX8_moves_233 (by decide) rfl ?_
    refine r_lload X 4 dX8_moves_235 rfl ?_
    refine r_lload_n X 2 dX8_moves_237 rfl ?_
    refine m_join (P := SW Z 248 [(0, .ref b), (1, .int (nI n)), (4, .int (nI k10))] [.long (if ((f_Model_moves_L33 W U Hh q1.1 q1.2.1 q1.2.2 (f_Model_moves_L2  mpr 6) lak k10).1) < q12.1 then q12.1 else (f_Model_moves_L33 W U Hh q1.1 q1.2.1 q1.2.2 (f_Model_moves_L2  mpr 6) lak k10).1)] (ov h b (modL b lane many items spare stat tape taped fk fp mat mst tok mval W past nac imgs kept gvn costs lst sets bst q12.2.1 q12.2.2 q11 q10.2.2 trc ntr))) (fun K => ?_) ?_
    · refine r_lcmp_le X 247 dX8_moves_238 dX8_moves_239 rfl (fun c16 => ?_) (fun c16 => ?_)
      · skip
        refine r_lload_n X 2 dX8_moves_247 rfl ?_
        refine SW.pick [0, 1, 3] [(0, .ref b), (1, .int (nI n)), (4, .int (nI k10))] rfl ?_
        try simp only [if_neg c16] at K ⊢
        exact K
      · skip
        refine r_lload X 4 dX8_moves_242 rfl ?_
        refine r_goto X 248 dX8_moves_244 rfl ?_
        refine SW.pick [0, 1, 3] [(0, .ref b), (1, .int (nI n)), (4, .int (nI k10))] rfl ?_
        try simp only [if_pos c16] at K ⊢
        exact K
    have hv_b : isV (ov h b (modL b lane many items spare stat tape taped fk fp mat mst tok mval W past nac imgs kept gvn costs lst sets bst q12.2.1 q12.2.2 q11 q10.2.2 trc ntr)) b (modL b lane many items spare stat tape taped fk fp mat mst tok mval W past nac imgs kept gvn costs lst sets bst q12.2.1 q12.2.2 q11 q10.2.2 trc ntr) := ov_isV
    refine r_lstore_n [(0, .ref b), (1, .int (nI n)), (2, .long (if ((f_Model_moves_L33 W U Hh q1.1 q1.2.1 q1.2.2 (f_Model_moves_L2  mpr 6) lak k10).1) < q12.1 then q12.1 else (f_Model_moves_L33 W U Hh q1.1 q1.2.1 q1.2.2 (f_Model_moves_L2  mpr 6) lak k10).1)), (4, .int (nI k10))] X dX8_moves_248 rfl (by decide) rfl ?_
    refine r_iinc [(0, .ref b), (1, .int (nI n)), (2, .long (if ((f_Model_moves_L33 W U Hh q1.1 q1.2.1 q1.2.2 (f_Model_moves_L2  mpr 6) lak k10).1) < q12.1 then q12.1 else (f_Model_moves_L33 W U Hh q1.1 q1.2.1 q1.2.2 (f_Model_moves_L2  mpr 6) lak k10).1)), (4, .int (nI (k10 + 1)))] X (nI (k10 + 1)) 3 dX8_moves_249 rfl (nI_succ _).symm (by decide) rfl ?_
    refine r_goto X 33 dX8_moves_252 rfl ?_
    subst eq12
    subst eq11
    subst eq10
    subst eq7
    exact ih
  obtain ⟨q13, eq13⟩ : ∃ q, q = f_Model_moves_L33 W U Hh q1.1 q1.2.1 q1.2.2 (f_Model_moves_L2  mpr 6) lak n := ⟨_, rfl⟩
  rw [← eq13]
  rw [← eq13] at hf
  try dsimp only at hf
  have hv_b : isV (ov h b (modL b lane many items spare stat tape taped fk fp mat mst tok mval W past nac imgs kept gvn costs lst sets bst q13.2.1 q13.2.2.1 q13.2.2.2.1 q13.2.2.2.2 trc ntr)) b (modL b lane many items spare stat tape taped fk fp mat mst tok mval W past nac imgs kept gvn costs lst sets bst q13.2.1 q13.2.2.1 q13.2.2.2.1 q13.2.2.2.2 trc ntr) := ov_isV
  refine r_iload X 3 dX8_moves_33 rfl ?_
  refine r_iload_n X 1 dX8_moves_35 rfl ?_
  refine r_icmp_ge X 255 dX8_moves_36 rfl (fun _ => ?_) (fun z => absurd z (nI_nlt (a := n) (b := n) (by omega) (by omega)))
  refine r_lload_n X 2 dX8_moves_255 rfl ?_
  try subst hf
  exact r_lreturn X Y dX8_moves_256 rfl rfl

theorem notes_le {nac : Nat} (h : nac ≤ 16) : (if nI nac = (16 : Int32) then nac - 1 else nac) ≤ 15 := by
  split
  · omega
  · rename_i c
    have := nI_ne_lt (b := 16) h c
    omega

def f_Model_notes_L11s  (k11 : Nat) (past : Nat → Int32) : (Nat → Int32) := upd past k11 (past (k11 + 41))
def f_Model_notes_L11  (past : Nat → Int32) : Nat → (Nat → Int32)
  | 0 => past
  | k11 + 1 => f_Model_notes_L11s  k11 (f_Model_notes_L11  past k11)
def f_Model_notes (W : Nat → Nat → Int32) (past : Nat → Int32) (nac : Nat) : (Nat → Int32) × Nat := (f_copies (W 0) (if (nI nac) = (16 : Int32) then (f_Model_notes_L11  past 615) else past) 0 (41 * (if (nI nac) = (16 : Int32) then nac - 1 else nac)), (if (nI nac) = (16 : Int32) then nac - 1 else nac) + 1)
set_option maxRecDepth 20000 in
set_option maxHeartbeats 4000000 in
theorem c_Model_notes {G : mG} {h : mHp} {b : Nat} {lane : Nat → Int32} {many : Nat → Nat} {items : Nat → Int32} {spare : Nat → Int32} {stat : Int32} {tape : Nat → Int32} {taped : Nat} {fk : Int32} {fp : Int32} {mat : Nat} {mst : Nat} {tok : Int32} {mval : Int32} {W : Nat → Nat → Int32} {past : Nat → Int32} {nac : Nat} {imgs : Nat → Int32} {kept : Nat → Int32} {gvn : Nat → Int32} {costs : Nat → Int32} {lst : Nat → Int32} {sets : Nat → Int32} {bst : Int32} {mlo : Int64} {mal : Int32} {mpr : Nat → Int64} {lak : Nat → Int64} {trc : Nat → Int32} {ntr : Nat}   (hac : nac ≤ 16) : Ret G 1 mX8_notes [.ref b] (ov h b (modL b lane many items spare stat tape taped fk fp mat mst tok mval W past nac imgs kept gvn costs lst sets bst mlo mal mpr lak trc ntr)) none (ov h b (modL b lane many items spare stat tape taped fk fp mat mst tok mval W (f_Model_notes W past nac).1 (f_Model_notes W past nac).2 imgs kept gvn costs lst sets bst mlo mal mpr lak trc ntr)) := by
  generalize hf : f_Model_notes W past nac = R
  unfold f_Model_notes at hf
  refine Ret.of [(0, .ref b)] (by decide) (Nat.le_of_ble_eq_true rfl) rfl ?_
  rintro Z rfl X Y
  have hv_b : isV (ov h b (modL b lane many items spare stat tape taped fk fp mat mst tok mval W past nac imgs kept gvn costs lst sets bst mlo mal mpr lak trc ntr)) b (modL b lane many items spare stat tape taped fk fp mat mst tok mval W past nac imgs kept gvn costs lst sets bst mlo mal mpr lak trc ntr) := ov_isV
  refine r_aload_n X 0 dX8_notes_0 rfl ?_
  refine gf_X8_158 X dX8_notes_1 (hv_b 0 _ rfl) rfl ?_
  refine r_bipush X (16 : Int32) dX8_notes_4 (by decide) ?_
  refine m_join (P := SW Z 49 [(0, .ref b)] [] (ov h b (modL b lane many items spare stat tape taped fk fp mat mst tok mval W (if (nI nac) = (16 : Int32) then (f_Model_notes_L11  past 615) else past) (if (nI nac) = (16 : Int32) then nac - 1 else nac) imgs kept gvn costs lst sets bst mlo mal mpr lak trc ntr))) (fun K => ?_) ?_
  · refine r_icmp_ne X 49 dX8_notes_6 rfl (fun c0 => ?_) (fun c0 => ?_)
    · skip
      try simp only [if_neg c0] at K ⊢
      exact K
    · skip
      have hn : nac = 16 := (nI_eq (b := 16) (by omega) (by omega)).mp c0
      refine r_iconst X (0 : Int32) dX8_notes_9 (by decide) ?_
      refine r_istore_n [(0, .ref b), (1, .int (0 : Int32))] X dX8_notes_10 rfl (by decide) rfl ?_
      refine loop_up (P := fun k1 => SW Z 11 [(0, .ref b), (1, .int (nI k1))] [] (ov h b (modL b lane many items spare stat tape taped fk fp mat mst tok mval W (f_Model_notes_L11  past k1) nac imgs kept gvn costs lst sets bst mlo mal mpr lak trc ntr))) 615 ?_ ?_ 0 (Nat.zero_le _)
      rotate_left
      · intro k1 hk1 ih
        have hv_b : isV (ov h b (modL b lane many items spare stat tape taped fk fp mat mst tok mval W (f_Model_notes_L11  past k1) nac imgs kept gvn costs lst sets bst mlo mal mpr lak trc ntr)) b (modL b lane many items spare stat tape taped fk fp mat mst tok mval W (f_Model_notes_L11  past k1) nac imgs kept gvn costs lst sets bst mlo mal mpr lak trc ntr) := ov_isV
        refine r_iload_n X 1 dX8_notes_11 rfl ?_
        refine r_sipush X (615 : Int32) dX8_notes_12 (by decide) ?_
        refine r_icmp_ge X 39 dX8_notes_15 rfl (fun z => absurd (nI_lt (a := k1) (b := 615) (by omega) (by omega)) z) (fun _ => ?_)
        refine r_aload_n X 0 dX8_notes_18 rfl ?_
        refine gf_X8_34 X dX8_notes_19 (hv_b 0 _ rfl) rfl ?_
        refine r_iload_n X 1 dX8_notes_22 rfl ?_
        refine r_aload_n X 0 dX8_notes_23 rfl ?_
        refine gf_X8_34 X dX8_notes_24 (hv_b 0 _ rfl) rfl ?_
        refine r_iload_n X 1 dX8_notes_27 rfl ?_
        refine r_bipush X (41 : Int32) dX8_notes_28 (by decide) ?_
        refine r_iaddn X (a := k1) (b := 41) dX8_notes_30 ?_
        refine r_ialdn X (k0 := k1 + 41) dX8_notes_31 (hv_b 9 _ rfl) (by omega) (by decide) ?_
        refine r_iastn X (k0 := k1) dX8_notes_32 (hv_b 9 _ rfl) (by omega) (by first | decide | omega) ?_
        refine SW.heq (h2 := (ov h b (modL b lane many items spare stat tape taped fk fp mat mst tok mval W (upd (f_Model_notes_L11  past k1) k1 ((f_Model_notes_L11  past k1) (k1 + 41))) nac imgs kept gvn costs lst sets bst mlo mal mpr lak trc ntr))) (ov_up 9 (Nat.le_of_ble_eq_true rfl) rfl) ?_
        have hv_b : isV (ov h b (modL b lane many items spare stat tape taped fk fp mat mst tok mval W (upd (f_Model_notes_L11  past k1) k1 ((f_Model_notes_L11  past k1) (k1 + 41))) nac imgs kept gvn costs lst sets bst mlo mal mpr lak trc ntr)) b (modL b lane many items spare stat tape taped fk fp mat mst tok mval W (upd (f_Model_notes_L11  past k1) k1 ((f_Model_notes_L11  past k1) (k1 + 41))) nac imgs kept gvn costs lst sets bst mlo mal mpr lak trc ntr) := ov_isV
        refine r_iinc [(0, .ref b), (1, .int (nI (k1 + 1)))] X (nI (k1 + 1)) 1 dX8_notes_33 rfl (nI_succ _).symm (by decide) rfl ?_
        refine r_goto X 11 dX8_notes_36 rfl ?_
        exact ih
      have hv_b : isV (ov h b (modL b lane many items spare stat tape taped fk fp mat mst tok mval W (f_Model_notes_L11  past 615) nac imgs kept gvn costs lst sets bst mlo mal mpr lak trc ntr)) b (modL b lane many items spare stat tape taped fk fp mat mst tok mval W (f_Model_notes_L11  past 615) nac imgs kept gvn costs lst sets bst mlo mal mpr lak trc ntr) := ov_isV
      refine r_iload_n X 1 dX8_notes_11 rfl ?_
      refine r_sipush X (615 : Int32) dX8_notes_12 (by decide) ?_
      refine r_icmp_ge X 39 dX8_notes_15 rfl (fun _ => ?_) (fun z => absurd z (nI_nlt (a := 615) (b := 615) (by omega) (by omega)))
      refine r_aload_n X 0 dX8_notes_39 rfl ?_
      refine r_dup X dX8_notes_40 rfl ?_
      refine gf_X8_158 X dX8_notes_41 (hv_b 0 _ rfl) rfl ?_
      refine r_iconst X (1 : Int32) dX8_notes_44 (by decide) ?_
      refine r_isubn X (a := nac) (b := 1) dX8_notes_45 (by omega) ?_
      refine pf_X8_158 X dX8_notes_46 (hv_b 0 _ rfl) (Nat.le_of_ble_eq_true rfl) ?_
      refine SW.heq (h2 := (ov h b (modL b lane many items spare stat tape taped fk fp mat mst tok mval W (f_Model_notes_L11  past 615) (nac - 1) imgs kept gvn costs lst sets bst mlo mal mpr lak trc ntr))) (ov_up 0 (Nat.le_of_ble_eq_true rfl) rfl) ?_
      have hv_b : isV (ov h b (modL b lane many items spare stat tape taped fk fp mat mst tok mval W (f_Model_notes_L11  past 615) (nac - 1) imgs kept gvn costs lst sets bst mlo mal mpr lak trc ntr)) b (modL b lane many items spare stat tape taped fk fp mat mst tok mval W (f_Model_notes_L11  past 615) (nac - 1) imgs kept gvn costs lst sets bst mlo mal mpr lak trc ntr) := ov_isV
      refine SW.pick [0] [(0, .ref b)] rfl ?_
      try simp only [if_pos c0] at K ⊢
      exact K
  have hv_b : isV (ov h b (modL b lane many items spare stat tape taped fk fp mat mst tok mval W (if (nI nac) = (16 : Int32) then (f_Model_notes_L11  past 615) else past) (if (nI nac) = (16 : Int32) then nac - 1 else nac) imgs kept gvn costs lst sets bst mlo mal mpr lak trc ntr)) b (modL b lane many items spare stat tape taped fk fp mat mst tok mval W (if (nI nac) = (16 : Int32) then (f_Model_notes_L11  past 615) else past) (if (nI nac) = (16 : Int32) then nac - 1 else nac) imgs kept gvn costs lst sets bst mlo mal mpr lak trc ntr) := ov_isV
  have hn2 := notes_le hac
  refine r_aload_n X 0 dX8_notes_49 rfl ?_
  refine gf_X8_25 X dX8_notes_50 (hv_b 0 _ rfl) rfl ?_
  refine r_iconst X (0 : Int32) dX8_notes_53 (by decide) ?_
  refine r_aload_n X 0 dX8_notes_54 rfl ?_
  refine gf_X8_34 X dX8_notes_55 (hv_b 0 _ rfl) rfl ?_
  refine r_bipush X (41 : Int32) dX8_notes_58 (by decide) ?_
  refine r_aload_n X 0 dX8_notes_60 rfl ?_
  refine gf_X8_158 X dX8_notes_61 (hv_b 0 _ rfl) rfl ?_
  refine r_imuln X (a := 41) (b := (if (nI nac) = (16 : Int32) then nac - 1 else nac)) dX8_notes_64 ?_
  refine cl_X8_154 X (by decide) dX8_notes_65 (Nat.le_of_ble_eq_true rfl) (c_copies_up (a := 0) (c := 41 * (if (nI nac) = (16 : Int32) then nac - 1 else nac)) (hv_b (6 + 0) _ (modL_W (by omega))) (hv_b 9 _ rfl) (by omega) (by omega) (by omega)) ?_
  refine SW.heq (h2 := (ov h b (modL b lane many items spare stat tape taped fk fp mat mst tok mval W (f_copies (W 0) (if (nI nac) = (16 : Int32) then (f_Model_notes_L11  past 615) else past) 0 (41 * (if (nI nac) = (16 : Int32) then nac - 1 else nac))) (if (nI nac) = (16 : Int32) then nac - 1 else nac) imgs kept gvn costs lst sets bst mlo mal mpr lak trc ntr))) (ov_up 9 (Nat.le_of_ble_eq_true rfl) rfl) ?_
  have hv_b : isV (ov h b (modL b lane many items spare stat tape taped fk fp mat mst tok mval W (f_copies (W 0) (if (nI nac) = (16 : Int32) then (f_Model_notes_L11  past 615) else past) 0 (41 * (if (nI nac) = (16 : Int32) then nac - 1 else nac))) (if (nI nac) = (16 : Int32) then nac - 1 else nac) imgs kept gvn costs lst sets bst mlo mal mpr lak trc ntr)) b (modL b lane many items spare stat tape taped fk fp mat mst tok mval W (f_copies (W 0) (if (nI nac) = (16 : Int32) then (f_Model_notes_L11  past 615) else past) 0 (41 * (if (nI nac) = (16 : Int32) then nac - 1 else nac))) (if (nI nac) = (16 : Int32) then nac - 1 else nac) imgs kept gvn costs lst sets bst mlo mal mpr lak trc ntr) := ov_isV
  refine r_aload_n X 0 dX8_notes_68 rfl ?_
  refine r_dup X dX8_notes_69 rfl ?_
  refine gf_X8_158 X dX8_notes_70 (hv_b 0 _ rfl) rfl ?_
  refine r_iconst X (1 : Int32) dX8_notes_73 (by decide) ?_
  refine r_iaddn X (a := (if (nI nac) = (16 : Int32) then nac - 1 else nac)) (b := 1) dX8_notes_74 ?_
  refine pf_X8_158 X dX8_notes_75 (hv_b 0 _ rfl) (Nat.le_of_ble_eq_true rfl) ?_
  refine SW.heq (h2 := (ov h b (modL b lane many items spare stat tape taped fk fp mat mst tok mval W (f_copies (W 0) (if (nI nac) = (16 : Int32) then (f_Model_notes_L11  past 615) else past) 0 (41 * (if (nI nac) = (16 : Int32) then nac - 1 else nac))) ((if (nI nac) = (16 : Int32) then nac - 1 else nac) + 1) imgs kept gvn costs lst sets bst mlo mal mpr lak trc ntr))) (ov_up 0 (Nat.le_of_ble_eq_true rfl) rfl) ?_
  have hv_b : isV (ov h b (modL b lane many items spare stat tape taped fk fp mat mst tok mval W (f_copies (W 0) (if (nI nac) = (16 : Int32) then (f_Model_notes_L11  past 615) else past) 0 (41 * (if (nI nac) = (16 : Int32) then nac - 1 else nac))) ((if (nI nac) = (16 : Int32) then nac - 1 else nac) + 1) imgs kept gvn costs lst sets bst mlo mal mpr lak trc ntr)) b (modL b lane many items spare stat tape taped fk fp mat mst tok mval W (f_copies (W 0) (if (nI nac) = (16 : Int32) then (f_Model_notes_L11  past 615) else past) 0 (41 * (if (nI nac) = (16 : Int32) then nac - 1 else nac))) ((if (nI nac) = (16 : Int32) then nac - 1 else nac) + 1) imgs kept gvn costs lst sets bst mlo mal mpr lak trc ntr) := ov_isV
  try subst hf
  exact r_return X Y dX8_notes_78 rfl rfl

def f_Model_isDay (W : Nat → Nat → Int32) : Int32 := if (0 : Int32) < ((W 0) 0) then (1 : Int32) else (0 : Int32)
set_option maxRecDepth 20000 in
set_option maxHeartbeats 4000000 in
theorem c_Model_isDay {G : mG} {h : mHp} {b : Nat} {lane : Nat → Int32} {many : Nat → Nat} {items : Nat → Int32} {spare : Nat → Int32} {stat : Int32} {tape : Nat → Int32} {taped : Nat} {fk : Int32} {fp : Int32} {mat : Nat} {mst : Nat} {tok : Int32} {mval : Int32} {W : Nat → Nat → Int32} {past : Nat → Int32} {nac : Nat} {imgs : Nat → Int32} {kept : Nat → Int32} {gvn : Nat → Int32} {costs : Nat → Int32} {lst : Nat → Int32} {sets : Nat → Int32} {bst : Int32} {mlo : Int64} {mal : Int32} {mpr : Nat → Int64} {lak : Nat → Int64} {trc : Nat → Int32} {ntr : Nat} (hv_b : isV h b (modL b lane many items spare stat tape taped fk fp mat mst tok mval W past nac imgs kept gvn costs lst sets bst mlo mal mpr lak trc ntr))   : Ret G 0 mX8_isDay [.ref b] h (some (.int (f_Model_isDay W))) h := by
  generalize hf : f_Model_isDay W = R
  unfold f_Model_isDay at hf
  refine Ret.of [(0, .ref b)] (by decide) (Nat.le_of_ble_eq_true rfl) rfl ?_
  rintro Z rfl X Y
  refine r_aload_n X 0 dX8_isDay_0 rfl ?_
  refine gf_X8_25 X dX8_isDay_1 (hv_b 0 _ rfl) rfl ?_
  refine r_iconst X (0 : Int32) dX8_isDay_4 (by decide) ?_
  refine r_ialdn X (k0 := 0) dX8_isDay_5 (hv_b (6 + 0) _ (modL_W (by omega))) (by omega) (by decide) ?_
  refine m_join (P := SW Z 14 [] [.int (if (0 : Int32) < ((W 0) 0) then (1 : Int32) else (0 : Int32))] h) (fun K => ?_) ?_
  · refine r_if_le X 13 dX8_isDay_6 rfl (fun c1 => ?_) (fun c1 => ?_)
    · skip
      refine r_iconst X (0 : Int32) dX8_isDay_13 (by decide) ?_
      refine SW.pick [] [] rfl ?_
      try simp only [if_neg c1] at K ⊢
      exact K
    · skip
      refine r_iconst X (1 : Int32) dX8_isDay_9 (by decide) ?_
      refine r_goto X 14 dX8_isDay_10 rfl ?_
      refine SW.pick [] [] rfl ?_
      try simp only [if_pos c1] at K ⊢
      exact K
  try subst hf
  exact r_zreturn X Y dX8_isDay_14 (by (repeat' split) <;> first | exact Or.inl rfl | exact Or.inr rfl) rfl rfl

def f_Model_isUnit (u : Int32) (U : Nat) : Int32 := (f_Model_in u (0 : Int32) ((nI U) - (1 : Int32)))
set_option maxRecDepth 20000 in
set_option maxHeartbeats 4000000 in
theorem c_Model_isUnit {G : mG} {h : mHp} {b : Nat} {lane : Nat → Int32} {many : Nat → Nat} {items : Nat → Int32} {spare : Nat → Int32} {stat : Int32} {tape : Nat → Int32} {taped : Nat} {fk : Int32} {fp : Int32} {mat : Nat} {mst : Nat} {tok : Int32} {mval : Int32} {W : Nat → Nat → Int32} {past : Nat → Int32} {nac : Nat} {imgs : Nat → Int32} {kept : Nat → Int32} {gvn : Nat → Int32} {costs : Nat → Int32} {lst : Nat → Int32} {sets : Nat → Int32} {bst : Int32} {mlo : Int64} {mal : Int32} {mpr : Nat → Int64} {lak : Nat → Int64} {trc : Nat → Int32} {ntr : Nat} {u : Int32} {U : Nat} (hv_b : isV h b (modL b lane many items spare stat tape taped fk fp mat mst tok mval W past nac imgs kept gvn costs lst sets bst mlo mal mpr lak trc ntr))  (h0 : W 0 0 = nI U) (hU : U ≤ 4) : Ret G 1 mX8_isUnit [.ref b, .int u] h (some (.int (f_Model_isUnit u U))) h := by
  generalize hf : f_Model_isUnit u U = R
  unfold f_Model_isUnit at hf
  refine Ret.of [(0, .ref b), (1, .int u)] (by decide) (Nat.le_of_ble_eq_true rfl) rfl ?_
  rintro Z rfl X Y
  refine r_iload_n X 1 dX8_isUnit_0 rfl ?_
  refine r_iconst X (0 : Int32) dX8_isUnit_1 (by decide) ?_
  refine r_aload_n X 0 dX8_isUnit_2 rfl ?_
  refine gf_X8_25 X dX8_isUnit_3 (hv_b 0 _ rfl) rfl ?_
  refine r_iconst X (0 : Int32) dX8_isUnit_6 (by decide) ?_
  refine r_ialdv X (v := nI U) (k0 := 0) dX8_isUnit_7 (hv_b (6 + 0) _ (modL_W (by omega))) (by omega) (by decide) h0 ?_
  refine r_iconst X (1 : Int32) dX8_isUnit_8 (by decide) ?_
  refine r_isub X dX8_isUnit_9 ?_
  refine cl_X8_72 X (by decide) dX8_isUnit_10 (Nat.le_of_ble_eq_true rfl) (c_Model_in  ) ?_
  try subst hf
  exact r_zreturn X Y dX8_isUnit_13 (in_bool _ _ _) rfl rfl

def f_Model_isHour (hr : Int32) (Hh : Nat) : Int32 := (f_Model_in hr (0 : Int32) ((nI Hh) - (1 : Int32)))
set_option maxRecDepth 20000 in
set_option maxHeartbeats 4000000 in
theorem c_Model_isHour {G : mG} {h : mHp} {b : Nat} {lane : Nat → Int32} {many : Nat → Nat} {items : Nat → Int32} {spare : Nat → Int32} {stat : Int32} {tape : Nat → Int32} {taped : Nat} {fk : Int32} {fp : Int32} {mat : Nat} {mst : Nat} {tok : Int32} {mval : Int32} {W : Nat → Nat → Int32} {past : Nat → Int32} {nac : Nat} {imgs : Nat → Int32} {kept : Nat → Int32} {gvn : Nat → Int32} {costs : Nat → Int32} {lst : Nat → Int32} {sets : Nat → Int32} {bst : Int32} {mlo : Int64} {mal : Int32} {mpr : Nat → Int64} {lak : Nat → Int64} {trc : Nat → Int32} {ntr : Nat} {hr : Int32} {Hh : Nat} (hv_b : isV h b (modL b lane many items spare stat tape taped fk fp mat mst tok mval W past nac imgs kept gvn costs lst sets bst mlo mal mpr lak trc ntr))  (h1 : W 0 1 = nI Hh) (hH : Hh ≤ 6) : Ret G 1 mX8_isHour [.ref b, .int hr] h (some (.int (f_Model_isHour hr Hh))) h := by
  generalize hf : f_Model_isHour hr Hh = R
  unfold f_Model_isHour at hf
  refine Ret.of [(0, .ref b), (1, .int hr)] (by decide) (Nat.le_of_ble_eq_true rfl) rfl ?_
  rintro Z rfl X Y
  refine r_iload_n X 1 dX8_isHour_0 rfl ?_
  refine r_iconst X (0 : Int32) dX8_isHour_1 (by decide) ?_
  refine r_aload_n X 0 dX8_isHour_2 rfl ?_
  refine gf_X8_25 X dX8_isHour_3 (hv_b 0 _ rfl) rfl ?_
  refine r_iconst X (1 : Int32) dX8_isHour_6 (by decide) ?_
  refine r_ialdv X (v := nI Hh) (k0 := 1) dX8_isHour_7 (hv_b (6 + 0) _ (modL_W (by omega))) (by omega) (by decide) h1 ?_
  refine r_iconst X (1 : Int32) dX8_isHour_8 (by decide) ?_
  refine r_isub X dX8_isHour_9 ?_
  refine cl_X8_72 X (by decide) dX8_isHour_10 (Nat.le_of_ble_eq_true rfl) (c_Model_in  ) ?_
  try subst hf
  exact r_zreturn X Y dX8_isHour_13 (in_bool _ _ _) rfl rfl

def f_Model_kindIn (W : Nat → Nat → Int32) (u : Nat) : Int32 := (W 0) (9 + (8 * u))
set_option maxRecDepth 20000 in
set_option maxHeartbeats 4000000 in
theorem c_Model_kindIn {G : mG} {h : mHp} {b : Nat} {lane : Nat → Int32} {many : Nat → Nat} {items : Nat → Int32} {spare : Nat → Int32} {stat : Int32} {tape : Nat → Int32} {taped : Nat} {fk : Int32} {fp : Int32} {mat : Nat} {mst : Nat} {tok : Int32} {mval : Int32} {W : Nat → Nat → Int32} {past : Nat → Int32} {nac : Nat} {imgs : Nat → Int32} {kept : Nat → Int32} {gvn : Nat → Int32} {costs : Nat → Int32} {lst : Nat → Int32} {sets : Nat → Int32} {bst : Int32} {mlo : Int64} {mal : Int32} {mpr : Nat → Int64} {lak : Nat → Int64} {trc : Nat → Int32} {ntr : Nat} {u : Nat} (hv_b : isV h b (modL b lane many items spare stat tape taped fk fp mat mst tok mval W past nac imgs kept gvn costs lst sets bst mlo mal mpr lak trc ntr))  (hu : u < 4) : Ret G 0 mX8_kindIn [.ref b, .int (nI u)] h (some (.int (f_Model_kindIn W u))) h := by
  generalize hf : f_Model_kindIn W u = R
  unfold f_Model_kindIn at hf
  refine Ret.of [(0, .ref b), (1, .int (nI u))] (by decide) (Nat.le_of_ble_eq_true rfl) rfl ?_
  rintro Z rfl X Y
  refine r_aload_n X 0 dX8_kindIn_0 rfl ?_
  refine gf_X8_25 X dX8_kindIn_1 (hv_b 0 _ rfl) rfl ?_
  refine r_bipush X (9 : Int32) dX8_kindIn_4 (by decide) ?_
  refine r_bipush X (8 : Int32) dX8_kindIn_6 (by decide) ?_
  refine r_iload_n X 1 dX8_kindIn_8 rfl ?_
  refine r_imuln X (a := 8) (b := u) dX8_kindIn_9 ?_
  refine r_iaddn X (a := 9) (b := 8 * u) dX8_kindIn_10 ?_
  refine r_ialdn X (k0 := 9 + (8 * u)) dX8_kindIn_11 (hv_b (6 + 0) _ (modL_W (by omega))) (by omega) (by decide) ?_
  try subst hf
  exact r_ireturn X Y dX8_kindIn_12 rfl rfl

def f_Model_begins (trc : Nat → Int32) (ntr : Nat) (bd : Int32) : (Nat → Int32) × Nat := ((if (nI ntr) < (16 : Int32) then upd trc ntr bd else trc), (if (nI ntr) < (16 : Int32) then ntr + 1 else ntr))
set_option maxRecDepth 20000 in
set_option maxHeartbeats 4000000 in
theorem c_Model_begins {G : mG} {h : mHp} {b : Nat} {lane : Nat → Int32} {many : Nat → Nat} {items : Nat → Int32} {spare : Nat → Int32} {stat : Int32} {tape : Nat → Int32} {taped : Nat} {fk : Int32} {fp : Int32} {mat : Nat} {mst : Nat} {tok : Int32} {mval : Int32} {W : Nat → Nat → Int32} {past : Nat → Int32} {nac : Nat} {imgs : Nat → Int32} {kept : Nat → Int32} {gvn : Nat → Int32} {costs : Nat → Int32} {lst : Nat → Int32} {sets : Nat → Int32} {bst : Int32} {mlo : Int64} {mal : Int32} {mpr : Nat → Int64} {lak : Nat → Int64} {trc : Nat → Int32} {ntr : Nat} {bd : Int32}   (ht : ntr ≤ 16) : Ret G 0 mX8_begins [.ref b, .int bd] (ov h b (modL b lane many items spare stat tape taped fk fp mat mst tok mval W past nac imgs kept gvn costs lst sets bst mlo mal mpr lak trc ntr)) none (ov h b (modL b lane many items spare stat tape taped fk fp mat mst tok mval W past nac imgs kept gvn costs lst sets bst mlo mal mpr lak (f_Model_begins trc ntr bd).1 (f_Model_begins trc ntr bd).2)) := by
  generalize hf : f_Model_begins trc ntr bd = R
  unfold f_Model_begins at hf
  refine Ret.of [(0, .ref b), (1, .int bd)] (by decide) (Nat.le_of_ble_eq_true rfl) rfl ?_
  rintro Z rfl X Y
  have hv_b : isV (ov h b (modL b lane many items spare stat tape taped fk fp mat mst tok mval W past nac imgs kept gvn costs lst sets bst mlo mal mpr lak trc ntr)) b (modL b lane many items spare stat tape taped fk fp mat mst tok mval W past nac imgs kept gvn costs lst sets bst mlo mal mpr lak trc ntr) := ov_isV
  refine r_aload_n X 0 dX8_begins_0 rfl ?_
  refine gf_X8_298 X dX8_begins_1 (hv_b 0 _ rfl) rfl ?_
  refine r_bipush X (16 : Int32) dX8_begins_4 (by decide) ?_
  refine m_join (P := SW Z 29 [] [] (ov h b (modL b lane many items spare stat tape taped fk fp mat mst tok mval W past nac imgs kept gvn costs lst sets bst mlo mal mpr lak (if (nI ntr) < (16 : Int32) then upd trc ntr bd else trc) (if (nI ntr) < (16 : Int32) then ntr + 1 else ntr)))) (fun K => ?_) ?_
  · refine r_icmp_ge X 29 dX8_begins_6 rfl (fun c0 => ?_) (fun c0 => ?_)
    · skip
      refine SW.pick [] [] rfl ?_
      try simp only [if_neg c0] at K ⊢
      exact K
    · skip
      have hx := nI_ltX (b := 16) c0 (by omega) (by omega)
      refine r_aload_n X 0 dX8_begins_9 rfl ?_
      refine gf_X8_63 X dX8_begins_10 (hv_b 0 _ rfl) rfl ?_
      refine r_aload_n X 0 dX8_begins_13 rfl ?_
      refine gf_X8_298 X dX8_begins_14 (hv_b 0 _ rfl) rfl ?_
      refine r_iload_n X 1 dX8_begins_17 rfl ?_
      refine r_iastn X (k0 := ntr) dX8_begins_18 (hv_b 18 _ rfl) (by omega) (by first | decide | omega) ?_
      refine SW.heq (h2 := (ov h b (modL b lane many items spare stat tape taped fk fp mat mst tok mval W past nac imgs kept gvn costs lst sets bst mlo mal mpr lak (upd trc ntr bd) ntr))) (ov_up 18 (Nat.le_of_ble_eq_true rfl) rfl) ?_
      have hv_b : isV (ov h b (modL b lane many items spare stat tape taped fk fp mat mst tok mval W past nac imgs kept gvn costs lst sets bst mlo mal mpr lak (upd trc ntr bd) ntr)) b (modL b lane many items spare stat tape taped fk fp mat mst tok mval W past nac imgs kept gvn costs lst sets bst mlo mal mpr lak (upd trc ntr bd) ntr) := ov_isV
      refine r_aload_n X 0 dX8_begins_19 rfl ?_
      refine r_dup X dX8_begins_20 rfl ?_
      refine gf_X8_298 X dX8_begins_21 (hv_b 0 _ rfl) rfl ?_
      refine r_iconst X (1 : Int32) dX8_begins_24 (by decide) ?_
      refine r_iaddn X (a := ntr) (b := 1) dX8_begins_25 ?_
      refine pf_X8_298 X dX8_begins_26 (hv_b 0 _ rfl) (Nat.le_of_ble_eq_true rfl) ?_
      refine SW.heq (h2 := (ov h b (modL b lane many items spare stat tape taped fk fp mat mst tok mval W past nac imgs kept gvn costs lst sets bst mlo mal mpr lak (upd trc ntr bd) (ntr + 1)))) (ov_up 0 (Nat.le_of_ble_eq_true rfl) rfl) ?_
      have hv_b : isV (ov h b (modL b lane many items spare stat tape taped fk fp mat mst tok mval W past nac imgs kept gvn costs lst sets bst mlo mal mpr lak (upd trc ntr bd) (ntr + 1))) b (modL b lane many items spare stat tape taped fk fp mat mst tok mval W past nac imgs kept gvn costs lst sets bst mlo mal mpr lak (upd trc ntr bd) (ntr + 1)) := ov_isV
      refine SW.pick [] [] rfl ?_
      try simp only [if_pos c0] at K ⊢
      exact K
  have hv_b : isV (ov h b (modL b lane many items spare stat tape taped fk fp mat mst tok mval W past nac imgs kept gvn costs lst sets bst mlo mal mpr lak (if (nI ntr) < (16 : Int32) then upd trc ntr bd else trc) (if (nI ntr) < (16 : Int32) then ntr + 1 else ntr))) b (modL b lane many items spare stat tape taped fk fp mat mst tok mval W past nac imgs kept gvn costs lst sets bst mlo mal mpr lak (if (nI ntr) < (16 : Int32) then upd trc ntr bd else trc) (if (nI ntr) < (16 : Int32) then ntr + 1 else ntr)) := ov_isV
  try subst hf
  exact r_return X Y dX8_begins_29 rfl rfl

theorem begins_le {trc : Nat → Int32} {ntr : Nat} {bd : Int32} (h : ntr ≤ 16) : (f_Model_begins trc ntr bd).2 ≤ 16 := by
  unfold f_Model_begins
  (repeat' split) <;> dsimp only <;> (first | omega | (rename_i c; have := nI_ltX (b := 16) c (by omega) (by omega); omega))
