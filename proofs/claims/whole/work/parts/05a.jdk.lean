def arI (_ : Nat) (N : Nat) (f : Nat → Int32) : List mC := [.inl (0, N, .inl f)]
def arL (_ : Nat) (N : Nat) (f : Nat → Int64) : List mC := [.inl (1, N, .inr (.inl f))]
theorem isV1 {h : mHp} {a : Nat} {c : mC} (he : h a = some c) : isV h a [c] := by
  intro j x hj
  match j, hj with
  | 0, hj => cases hj; exact he
  | j + 1, hj => simp at hj

def f_bitCount (x : Int32) : Int32 := (((((((x - (((x.toUInt32 >>> ((1 : Int32).toUInt32 &&& Int32.toUInt32 31)).toInt32) &&& (1431655765 : Int32))) &&& (858993459 : Int32)) + ((((x - (((x.toUInt32 >>> ((1 : Int32).toUInt32 &&& Int32.toUInt32 31)).toInt32) &&& (1431655765 : Int32))).toUInt32 >>> ((2 : Int32).toUInt32 &&& Int32.toUInt32 31)).toInt32) &&& (858993459 : Int32))) + (((((x - (((x.toUInt32 >>> ((1 : Int32).toUInt32 &&& Int32.toUInt32 31)).toInt32) &&& (1431655765 : Int32))) &&& (858993459 : Int32)) + ((((x - (((x.toUInt32 >>> ((1 : Int32).toUInt32 &&& Int32.toUInt32 31)).toInt32) &&& (1431655765 : Int32))).toUInt32 >>> ((2 : Int32).toUInt32 &&& Int32.toUInt32 31)).toInt32) &&& (858993459 : Int32))).toUInt32 >>> ((4 : Int32).toUInt32 &&& Int32.toUInt32 31)).toInt32)) &&& (252645135 : Int32)) + (((((((x - (((x.toUInt32 >>> ((1 : Int32).toUInt32 &&& Int32.toUInt32 31)).toInt32) &&& (1431655765 : Int32))) &&& (858993459 : Int32)) + ((((x - (((x.toUInt32 >>> ((1 : Int32).toUInt32 &&& Int32.toUInt32 31)).toInt32) &&& (1431655765 : Int32))).toUInt32 >>> ((2 : Int32).toUInt32 &&& Int32.toUInt32 31)).toInt32) &&& (858993459 : Int32))) + (((((x - (((x.toUInt32 >>> ((1 : Int32).toUInt32 &&& Int32.toUInt32 31)).toInt32) &&& (1431655765 : Int32))) &&& (858993459 : Int32)) + ((((x - (((x.toUInt32 >>> ((1 : Int32).toUInt32 &&& Int32.toUInt32 31)).toInt32) &&& (1431655765 : Int32))).toUInt32 >>> ((2 : Int32).toUInt32 &&& Int32.toUInt32 31)).toInt32) &&& (858993459 : Int32))).toUInt32 >>> ((4 : Int32).toUInt32 &&& Int32.toUInt32 31)).toInt32)) &&& (252645135 : Int32)).toUInt32 >>> ((8 : Int32).toUInt32 &&& Int32.toUInt32 31)).toInt32)) + ((((((((x - (((x.toUInt32 >>> ((1 : Int32).toUInt32 &&& Int32.toUInt32 31)).toInt32) &&& (1431655765 : Int32))) &&& (858993459 : Int32)) + ((((x - (((x.toUInt32 >>> ((1 : Int32).toUInt32 &&& Int32.toUInt32 31)).toInt32) &&& (1431655765 : Int32))).toUInt32 >>> ((2 : Int32).toUInt32 &&& Int32.toUInt32 31)).toInt32) &&& (858993459 : Int32))) + (((((x - (((x.toUInt32 >>> ((1 : Int32).toUInt32 &&& Int32.toUInt32 31)).toInt32) &&& (1431655765 : Int32))) &&& (858993459 : Int32)) + ((((x - (((x.toUInt32 >>> ((1 : Int32).toUInt32 &&& Int32.toUInt32 31)).toInt32) &&& (1431655765 : Int32))).toUInt32 >>> ((2 : Int32).toUInt32 &&& Int32.toUInt32 31)).toInt32) &&& (858993459 : Int32))).toUInt32 >>> ((4 : Int32).toUInt32 &&& Int32.toUInt32 31)).toInt32)) &&& (252645135 : Int32)) + (((((((x - (((x.toUInt32 >>> ((1 : Int32).toUInt32 &&& Int32.toUInt32 31)).toInt32) &&& (1431655765 : Int32))) &&& (858993459 : Int32)) + ((((x - (((x.toUInt32 >>> ((1 : Int32).toUInt32 &&& Int32.toUInt32 31)).toInt32) &&& (1431655765 : Int32))).toUInt32 >>> ((2 : Int32).toUInt32 &&& Int32.toUInt32 31)).toInt32) &&& (858993459 : Int32))) + (((((x - (((x.toUInt32 >>> ((1 : Int32).toUInt32 &&& Int32.toUInt32 31)).toInt32) &&& (1431655765 : Int32))) &&& (858993459 : Int32)) + ((((x - (((x.toUInt32 >>> ((1 : Int32).toUInt32 &&& Int32.toUInt32 31)).toInt32) &&& (1431655765 : Int32))).toUInt32 >>> ((2 : Int32).toUInt32 &&& Int32.toUInt32 31)).toInt32) &&& (858993459 : Int32))).toUInt32 >>> ((4 : Int32).toUInt32 &&& Int32.toUInt32 31)).toInt32)) &&& (252645135 : Int32)).toUInt32 >>> ((8 : Int32).toUInt32 &&& Int32.toUInt32 31)).toInt32)).toUInt32 >>> ((16 : Int32).toUInt32 &&& Int32.toUInt32 31)).toInt32)) &&& (63 : Int32)
set_option maxRecDepth 20000 in
set_option maxHeartbeats 4000000 in
theorem c_bitCount {G : mG} {h : mHp} {x : Int32}    : Ret G 0 mJ6_bitCount_0f7a4 [.int x] h (some (.int (f_bitCount x))) h := by
  generalize hf : f_bitCount x = R
  unfold f_bitCount at hf
  refine Ret.of [(0, .int x)] (by decide) (Nat.le_of_ble_eq_true rfl) rfl ?_
  rintro Z rfl X Y
  refine r_iload_n X 0 dJ6_bitCount_0f7a4_0 rfl ?_
  refine r_iload_n X 0 dJ6_bitCount_0f7a4_1 rfl ?_
  refine r_iconst X (1 : Int32) dJ6_bitCount_0f7a4_2 (by decide) ?_
  refine r_iushr X dJ6_bitCount_0f7a4_3 ?_
  refine r_ldcw X dJ6_bitCount_0f7a4_4 kk_J6_265 ?_
  refine r_iand X dJ6_bitCount_0f7a4_7 ?_
  refine r_isub X dJ6_bitCount_0f7a4_8 ?_
  refine r_istore_n [(0, .int (x - (((x.toUInt32 >>> ((1 : Int32).toUInt32 &&& Int32.toUInt32 31)).toInt32) &&& (1431655765 : Int32))))] X dJ6_bitCount_0f7a4_9 rfl (by decide) rfl ?_
  refine r_iload_n X 0 dJ6_bitCount_0f7a4_10 rfl ?_
  refine r_ldcw X dJ6_bitCount_0f7a4_11 kk_J6_266 ?_
  refine r_iand X dJ6_bitCount_0f7a4_14 ?_
  refine r_iload_n X 0 dJ6_bitCount_0f7a4_15 rfl ?_
  refine r_iconst X (2 : Int32) dJ6_bitCount_0f7a4_16 (by decide) ?_
  refine r_iushr X dJ6_bitCount_0f7a4_17 ?_
  refine r_ldcw X dJ6_bitCount_0f7a4_18 kk_J6_266 ?_
  refine r_iand X dJ6_bitCount_0f7a4_21 ?_
  refine r_iadd X dJ6_bitCount_0f7a4_22 ?_
  refine r_istore_n [(0, .int (((x - (((x.toUInt32 >>> ((1 : Int32).toUInt32 &&& Int32.toUInt32 31)).toInt32) &&& (1431655765 : Int32))) &&& (858993459 : Int32)) + ((((x - (((x.toUInt32 >>> ((1 : Int32).toUInt32 &&& Int32.toUInt32 31)).toInt32) &&& (1431655765 : Int32))).toUInt32 >>> ((2 : Int32).toUInt32 &&& Int32.toUInt32 31)).toInt32) &&& (858993459 : Int32))))] X dJ6_bitCount_0f7a4_23 rfl (by decide) rfl ?_
  refine r_iload_n X 0 dJ6_bitCount_0f7a4_24 rfl ?_
  refine r_iload_n X 0 dJ6_bitCount_0f7a4_25 rfl ?_
  refine r_iconst X (4 : Int32) dJ6_bitCount_0f7a4_26 (by decide) ?_
  refine r_iushr X dJ6_bitCount_0f7a4_27 ?_
  refine r_iadd X dJ6_bitCount_0f7a4_28 ?_
  refine r_ldcw X dJ6_bitCount_0f7a4_29 kk_J6_267 ?_
  refine r_iand X dJ6_bitCount_0f7a4_32 ?_
  refine r_istore_n [(0, .int (((((x - (((x.toUInt32 >>> ((1 : Int32).toUInt32 &&& Int32.toUInt32 31)).toInt32) &&& (1431655765 : Int32))) &&& (858993459 : Int32)) + ((((x - (((x.toUInt32 >>> ((1 : Int32).toUInt32 &&& Int32.toUInt32 31)).toInt32) &&& (1431655765 : Int32))).toUInt32 >>> ((2 : Int32).toUInt32 &&& Int32.toUInt32 31)).toInt32) &&& (858993459 : Int32))) + (((((x - (((x.toUInt32 >>> ((1 : Int32).toUInt32 &&& Int32.toUInt32 31)).toInt32) &&& (1431655765 : Int32))) &&& (858993459 : Int32)) + ((((x - (((x.toUInt32 >>> ((1 : Int32).toUInt32 &&& Int32.toUInt32 31)).toInt32) &&& (1431655765 : Int32))).toUInt32 >>> ((2 : Int32).toUInt32 &&& Int32.toUInt32 31)).toInt32) &&& (858993459 : Int32))).toUInt32 >>> ((4 : Int32).toUInt32 &&& Int32.toUInt32 31)).toInt32)) &&& (252645135 : Int32)))] X dJ6_bitCount_0f7a4_33 rfl (by decide) rfl ?_
  refine r_iload_n X 0 dJ6_bitCount_0f7a4_34 rfl ?_
  refine r_iload_n X 0 dJ6_bitCount_0f7a4_35 rfl ?_
  refine r_bipush X (8 : Int32) dJ6_bitCount_0f7a4_36 (by decide) ?_
  refine r_iushr X dJ6_bitCount_0f7a4_38 ?_
  refine r_iadd X dJ6_bitCount_0f7a4_39 ?_
  refine r_istore_n [(0, .int ((((((x - (((x.toUInt32 >>> ((1 : Int32).toUInt32 &&& Int32.toUInt32 31)).toInt32) &&& (1431655765 : Int32))) &&& (858993459 : Int32)) + ((((x - (((x.toUInt32 >>> ((1 : Int32).toUInt32 &&& Int32.toUInt32 31)).toInt32) &&& (1431655765 : Int32))).toUInt32 >>> ((2 : Int32).toUInt32 &&& Int32.toUInt32 31)).toInt32) &&& (858993459 : Int32))) + (((((x - (((x.toUInt32 >>> ((1 : Int32).toUInt32 &&& Int32.toUInt32 31)).toInt32) &&& (1431655765 : Int32))) &&& (858993459 : Int32)) + ((((x - (((x.toUInt32 >>> ((1 : Int32).toUInt32 &&& Int32.toUInt32 31)).toInt32) &&& (1431655765 : Int32))).toUInt32 >>> ((2 : Int32).toUInt32 &&& Int32.toUInt32 31)).toInt32) &&& (858993459 : Int32))).toUInt32 >>> ((4 : Int32).toUInt32 &&& Int32.toUInt32 31)).toInt32)) &&& (252645135 : Int32)) + (((((((x - (((x.toUInt32 >>> ((1 : Int32).toUInt32 &&& Int32.toUInt32 31)).toInt32) &&& (1431655765 : Int32))) &&& (858993459 : Int32)) + ((((x - (((x.toUInt32 >>> ((1 : Int32).toUInt32 &&& Int32.toUInt32 31)).toInt32) &&& (1431655765 : Int32))).toUInt32 >>> ((2 : Int32).toUInt32 &&& Int32.toUInt32 31)).toInt32) &&& (858993459 : Int32))) + (((((x - (((x.toUInt32 >>> ((1 : Int32).toUInt32 &&& Int32.toUInt32 31)).toInt32) &&& (1431655765 : Int32))) &&& (858993459 : Int32)) + ((((x - (((x.toUInt32 >>> ((1 : Int32).toUInt32 &&& Int32.toUInt32 31)).toInt32) &&& (1431655765 : Int32))).toUInt32 >>> ((2 : Int32).toUInt32 &&& Int32.toUInt32 31)).toInt32) &&& (858993459 : Int32))).toUInt32 >>> ((4 : Int32).toUInt32 &&& Int32.toUInt32 31)).toInt32)) &&& (252645135 : Int32)).toUInt32 >>> ((8 : Int32).toUInt32 &&& Int32.toUInt32 31)).toInt32)))] X dJ6_bitCount_0f7a4_40 rfl (by decide) rfl ?_
  refine r_iload_n X 0 dJ6_bitCount_0f7a4_41 rfl ?_
  refine r_iload_n X 0 dJ6_bitCount_0f7a4_42 rfl ?_
  refine r_bipush X (16 : Int32) dJ6_bitCount_0f7a4_43 (by decide) ?_
  refine r_iushr X dJ6_bitCount_0f7a4_45 ?_
  refine r_iadd X dJ6_bitCount_0f7a4_46 ?_
  refine r_istore_n [(0, .int (((((((x - (((x.toUInt32 >>> ((1 : Int32).toUInt32 &&& Int32.toUInt32 31)).toInt32) &&& (1431655765 : Int32))) &&& (858993459 : Int32)) + ((((x - (((x.toUInt32 >>> ((1 : Int32).toUInt32 &&& Int32.toUInt32 31)).toInt32) &&& (1431655765 : Int32))).toUInt32 >>> ((2 : Int32).toUInt32 &&& Int32.toUInt32 31)).toInt32) &&& (858993459 : Int32))) + (((((x - (((x.toUInt32 >>> ((1 : Int32).toUInt32 &&& Int32.toUInt32 31)).toInt32) &&& (1431655765 : Int32))) &&& (858993459 : Int32)) + ((((x - (((x.toUInt32 >>> ((1 : Int32).toUInt32 &&& Int32.toUInt32 31)).toInt32) &&& (1431655765 : Int32))).toUInt32 >>> ((2 : Int32).toUInt32 &&& Int32.toUInt32 31)).toInt32) &&& (858993459 : Int32))).toUInt32 >>> ((4 : Int32).toUInt32 &&& Int32.toUInt32 31)).toInt32)) &&& (252645135 : Int32)) + (((((((x - (((x.toUInt32 >>> ((1 : Int32).toUInt32 &&& Int32.toUInt32 31)).toInt32) &&& (1431655765 : Int32))) &&& (858993459 : Int32)) + ((((x - (((x.toUInt32 >>> ((1 : Int32).toUInt32 &&& Int32.toUInt32 31)).toInt32) &&& (1431655765 : Int32))).toUInt32 >>> ((2 : Int32).toUInt32 &&& Int32.toUInt32 31)).toInt32) &&& (858993459 : Int32))) + (((((x - (((x.toUInt32 >>> ((1 : Int32).toUInt32 &&& Int32.toUInt32 31)).toInt32) &&& (1431655765 : Int32))) &&& (858993459 : Int32)) + ((((x - (((x.toUInt32 >>> ((1 : Int32).toUInt32 &&& Int32.toUInt32 31)).toInt32) &&& (1431655765 : Int32))).toUInt32 >>> ((2 : Int32).toUInt32 &&& Int32.toUInt32 31)).toInt32) &&& (858993459 : Int32))).toUInt32 >>> ((4 : Int32).toUInt32 &&& Int32.toUInt32 31)).toInt32)) &&& (252645135 : Int32)).toUInt32 >>> ((8 : Int32).toUInt32 &&& Int32.toUInt32 31)).toInt32)) + ((((((((x - (((x.toUInt32 >>> ((1 : Int32).toUInt32 &&& Int32.toUInt32 31)).toInt32) &&& (1431655765 : Int32))) &&& (858993459 : Int32)) + ((((x - (((x.toUInt32 >>> ((1 : Int32).toUInt32 &&& Int32.toUInt32 31)).toInt32) &&& (1431655765 : Int32))).toUInt32 >>> ((2 : Int32).toUInt32 &&& Int32.toUInt32 31)).toInt32) &&& (858993459 : Int32))) + (((((x - (((x.toUInt32 >>> ((1 : Int32).toUInt32 &&& Int32.toUInt32 31)).toInt32) &&& (1431655765 : Int32))) &&& (858993459 : Int32)) + ((((x - (((x.toUInt32 >>> ((1 : Int32).toUInt32 &&& Int32.toUInt32 31)).toInt32) &&& (1431655765 : Int32))).toUInt32 >>> ((2 : Int32).toUInt32 &&& Int32.toUInt32 31)).toInt32) &&& (858993459 : Int32))).toUInt32 >>> ((4 : Int32).toUInt32 &&& Int32.toUInt32 31)).toInt32)) &&& (252645135 : Int32)) + (((((((x - (((x.toUInt32 >>> ((1 : Int32).toUInt32 &&& Int32.toUInt32 31)).toInt32) &&& (1431655765 : Int32))) &&& (858993459 : Int32)) + ((((x - (((x.toUInt32 >>> ((1 : Int32).toUInt32 &&& Int32.toUInt32 31)).toInt32) &&& (1431655765 : Int32))).toUInt32 >>> ((2 : Int32).toUInt32 &&& Int32.toUInt32 31)).toInt32) &&& (858993459 : Int32))) + (((((x - (((x.toUInt32 >>> ((1 : Int32).toUInt32 &&& Int32.toUInt32 31)).toInt32) &&& (1431655765 : Int32))) &&& (858993459 : Int32)) + ((((x - (((x.toUInt32 >>> ((1 : Int32).toUInt32 &&& Int32.toUInt32 31)).toInt32) &&& (1431655765 : Int32))).toUInt32 >>> ((2 : Int32).toUInt32 &&& Int32.toUInt32 31)).toInt32) &&& (858993459 : Int32))).toUInt32 >>> ((4 : Int32).toUInt32 &&& Int32.toUInt32 31)).toInt32)) &&& (252645135 : Int32)).toUInt32 >>> ((8 : Int32).toUInt32 &&& Int32.toUInt32 31)).toInt32)).toUInt32 >>> ((16 : Int32).toUInt32 &&& Int32.toUInt32 31)).toInt32)))] X dJ6_bitCount_0f7a4_47 rfl (by decide) rfl ?_
  refine r_iload_n X 0 dJ6_bitCount_0f7a4_48 rfl ?_
  refine r_bipush X (63 : Int32) dJ6_bitCount_0f7a4_49 (by decide) ?_
  refine r_iand X dJ6_bitCount_0f7a4_51 ?_
  try subst hf
  exact r_ireturn X Y dJ6_bitCount_0f7a4_52 rfl rfl

def f_fillI_L5s (x1 : Int32) (k5 : Nat) (f : Nat → Int32) : (Nat → Int32) := upd f k5 x1
def f_fillI_L5 (x1 : Int32) (f : Nat → Int32) : Nat → (Nat → Int32)
  | 0 => f
  | k5 + 1 => f_fillI_L5s x1 k5 (f_fillI_L5 x1 f k5)
def f_fillI (N : Nat) (f : Nat → Int32) (v : Int32) : (Nat → Int32) := (f_fillI_L5 v f N)
set_option maxRecDepth 20000 in
set_option maxHeartbeats 4000000 in
theorem c_fillI {G : mG} {h : mHp} {a : Nat} {N : Nat} {f : Nat → Int32} {v : Int32}   (hN : N < 2 ^ 31) : Ret G 0 mJ7_fill_53178 [.ref a, .int v] (ov h a (arI a N f)) none (ov h a (arI a N (f_fillI N f v))) := by
  generalize hf : f_fillI N f v = R
  unfold f_fillI at hf
  refine Ret.of [(0, .ref a), (1, .int v)] (by decide) (Nat.le_of_ble_eq_true rfl) rfl ?_
  rintro Z rfl X Y
  have hv_a : isV (ov h a (arI a N f)) a (arI a N f) := ov_isV
  refine r_iconst X (0 : Int32) dJ7_fill_53178_0 (by decide) ?_
  refine r_istore_n [(0, .ref a), (1, .int v), (2, .int (0 : Int32))] X dJ7_fill_53178_1 rfl (by decide) rfl ?_
  refine r_aload_n X 0 dJ7_fill_53178_2 rfl ?_
  refine r_alen X (nI N) dJ7_fill_53178_3 (hv_a 0 _ rfl) (by decide) rfl ?_
  refine r_istore_n [(0, .ref a), (1, .int v), (2, .int (0 : Int32)), (3, .int (nI N))] X dJ7_fill_53178_4 rfl (by decide) rfl ?_
  refine loop_up (P := fun k1 => SW Z 5 [(0, .ref a), (1, .int v), (2, .int (nI k1)), (3, .int (nI N))] [] (ov h a (arI a N (f_fillI_L5 v f k1)))) N ?_ ?_ 0 (Nat.zero_le _)
  rotate_left
  · intro k1 hk1 ih
    have hv_a : isV (ov h a (arI a N (f_fillI_L5 v f k1))) a (arI a N (f_fillI_L5 v f k1)) := ov_isV
    refine r_iload_n X 2 dJ7_fill_53178_5 rfl ?_
    refine r_iload_n X 3 dJ7_fill_53178_6 rfl ?_
    refine r_icmp_ge X 20 dJ7_fill_53178_7 rfl (fun z => absurd (nI_lt (a := k1) (b := N) (by omega) (by omega)) z) (fun _ => ?_)
    refine r_aload_n X 0 dJ7_fill_53178_10 rfl ?_
    refine r_iload_n X 2 dJ7_fill_53178_11 rfl ?_
    refine r_iload_n X 1 dJ7_fill_53178_12 rfl ?_
    refine r_iastn X (k0 := k1) dJ7_fill_53178_13 (hv_a 0 _ rfl) (by omega) (by first | decide | omega) ?_
    refine SW.heq (h2 := (ov h a (arI a N (upd (f_fillI_L5 v f k1) k1 v)))) (ov_up 0 (Nat.le_of_ble_eq_true rfl) rfl) ?_
    have hv_a : isV (ov h a (arI a N (upd (f_fillI_L5 v f k1) k1 v))) a (arI a N (upd (f_fillI_L5 v f k1) k1 v)) := ov_isV
    refine r_iinc [(0, .ref a), (1, .int v), (2, .int (nI (k1 + 1))), (3, .int (nI N))] X (nI (k1 + 1)) 2 dJ7_fill_53178_14 rfl (nI_succ _).symm (by decide) rfl ?_
    refine r_goto X 5 dJ7_fill_53178_17 rfl ?_
    exact ih
  have hv_a : isV (ov h a (arI a N (f_fillI_L5 v f N))) a (arI a N (f_fillI_L5 v f N)) := ov_isV
  refine r_iload_n X 2 dJ7_fill_53178_5 rfl ?_
  refine r_iload_n X 3 dJ7_fill_53178_6 rfl ?_
  refine r_icmp_ge X 20 dJ7_fill_53178_7 rfl (fun _ => ?_) (fun z => absurd z (nI_nlt (a := N) (b := N) (by omega) (by omega)))
  try subst hf
  exact r_return X Y dJ7_fill_53178_20 rfl rfl

def f_fillJ_L6s (x1 : Int64) (k6 : Nat) (f : Nat → Int64) : (Nat → Int64) := vp_updL f k6 x1
def f_fillJ_L6 (x1 : Int64) (f : Nat → Int64) : Nat → (Nat → Int64)
  | 0 => f
  | k6 + 1 => f_fillJ_L6s x1 k6 (f_fillJ_L6 x1 f k6)
def f_fillJ (N : Nat) (f : Nat → Int64) (v : Int64) : (Nat → Int64) := (f_fillJ_L6 v f N)
set_option maxRecDepth 20000 in
set_option maxHeartbeats 4000000 in
theorem c_fillJ {G : mG} {h : mHp} {a : Nat} {N : Nat} {f : Nat → Int64} {v : Int64}   (hN : N < 2 ^ 31) : Ret G 0 mJ7_fill_d0a16 [.ref a, .long v] (ov h a (arL a N f)) none (ov h a (arL a N (f_fillJ N f v))) := by
  generalize hf : f_fillJ N f v = R
  unfold f_fillJ at hf
  refine Ret.of [(0, .ref a), (1, .long v)] (by decide) (Nat.le_of_ble_eq_true rfl) rfl ?_
  rintro Z rfl X Y
  have hv_a : isV (ov h a (arL a N f)) a (arL a N f) := ov_isV
  refine r_iconst X (0 : Int32) dJ7_fill_d0a16_0 (by decide) ?_
  refine r_istore_n [(0, .ref a), (1, .long v), (3, .int (0 : Int32))] X dJ7_fill_d0a16_1 rfl (by decide) rfl ?_
  refine r_aload_n X 0 dJ7_fill_d0a16_2 rfl ?_
  refine r_alen X (nI N) dJ7_fill_d0a16_3 (hv_a 0 _ rfl) (by decide) rfl ?_
  refine r_istore [(0, .ref a), (1, .long v), (3, .int (0 : Int32)), (4, .int (nI N))] X dJ7_fill_d0a16_4 (by decide) rfl ?_
  refine loop_up (P := fun k1 => SW Z 6 [(0, .ref a), (1, .long v), (3, .int (nI k1)), (4, .int (nI N))] [] (ov h a (arL a N (f_fillJ_L6 v f k1)))) N ?_ ?_ 0 (Nat.zero_le _)
  rotate_left
  · intro k1 hk1 ih
    have hv_a : isV (ov h a (arL a N (f_fillJ_L6 v f k1))) a (arL a N (f_fillJ_L6 v f k1)) := ov_isV
    refine r_iload_n X 2 dJ7_fill_d0a16_6 rfl ?_
    refine r_iload X 3 dJ7_fill_d0a16_7 rfl ?_
    refine r_icmp_ge X 22 dJ7_fill_d0a16_9 rfl (fun z => absurd (nI_lt (a := k1) (b := N) (by omega) (by omega)) z) (fun _ => ?_)
    refine r_aload_n X 0 dJ7_fill_d0a16_12 rfl ?_
    refine r_iload_n X 2 dJ7_fill_d0a16_13 rfl ?_
    refine r_lload_n X 1 dJ7_fill_d0a16_14 rfl ?_
    refine r_lastn X (k0 := k1) dJ7_fill_d0a16_15 (hv_a 0 _ rfl) (by omega) (by first | decide | omega) ?_
    refine SW.heq (h2 := (ov h a (arL a N (vp_updL (f_fillJ_L6 v f k1) k1 v)))) (ov_up 0 (Nat.le_of_ble_eq_true rfl) rfl) ?_
    have hv_a : isV (ov h a (arL a N (vp_updL (f_fillJ_L6 v f k1) k1 v))) a (arL a N (vp_updL (f_fillJ_L6 v f k1) k1 v)) := ov_isV
    refine r_iinc [(0, .ref a), (1, .long v), (3, .int (nI (k1 + 1))), (4, .int (nI N))] X (nI (k1 + 1)) 2 dJ7_fill_d0a16_16 rfl (nI_succ _).symm (by decide) rfl ?_
    refine r_goto X 6 dJ7_fill_d0a16_19 rfl ?_
    exact ih
  have hv_a : isV (ov h a (arL a N (f_fillJ_L6 v f N))) a (arL a N (f_fillJ_L6 v f N)) := ov_isV
  refine r_iload_n X 2 dJ7_fill_d0a16_6 rfl ?_
  refine r_iload X 3 dJ7_fill_d0a16_7 rfl ?_
  refine r_icmp_ge X 22 dJ7_fill_d0a16_9 rfl (fun _ => ?_) (fun z => absurd z (nI_nlt (a := N) (b := N) (by omega) (by omega)))
  try subst hf
  exact r_return X Y dJ7_fill_d0a16_22 rfl rfl

theorem ov1_self {h : mHp} {a : Nat} {c : mC} (he : h a = some c) : ov h a [c] = h := ov_self (isV1 he)
theorem ov1_up {h : mHp} {a : Nat} {c c' : mC} (he : h a = some c) : ov h a [c'] = va_up h a (some c') := by
  have h1 := ov_up (h := h) (d := a) (L := [c]) (c := c') 0 (Nat.le_of_ble_eq_true rfl) rfl
  rw [ov1_self he] at h1
  exact h1.symm
theorem c_fillI_up {G : mG} {h : mHp} {a N : Nat} {f : Nat → Int32} {v : Int32} (he : h a = some (.inl (0, N, .inl f))) (hN : N < 2 ^ 31) : Ret G 0 mJ7_fill_53178 [.ref a, .int v] h none (va_up h a (some (.inl (0, N, .inl (f_fillI N f v))))) := by
  have h1 := c_fillI (G := G) (h := h) (a := a) (N := N) (f := f) (v := v) hN
  unfold arI at h1
  rw [ov1_self he, ov1_up he] at h1
  exact h1
theorem c_fillJ_up {G : mG} {h : mHp} {a N : Nat} {f : Nat → Int64} {v : Int64} (he : h a = some (.inl (1, N, .inr (.inl f)))) (hN : N < 2 ^ 31) : Ret G 0 mJ7_fill_d0a16 [.ref a, .long v] h none (va_up h a (some (.inl (1, N, .inr (.inl (f_fillJ N f v)))))) := by
  have h1 := c_fillJ (G := G) (h := h) (a := a) (N := N) (f := f) (v := v) hN
  unfold arL at h1
  rw [ov1_self he, ov1_up he] at h1
  exact h1
