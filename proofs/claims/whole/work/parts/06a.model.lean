def modL (b : Nat) (lane : Nat → Int32) (many : Nat → Nat) (items : Nat → Int32) (spare : Nat → Int32) (stat : Int32) (tape : Nat → Int32) (taped : Nat) (fk : Int32) (fp : Int32) (mat : Nat) (mst : Nat) (tok : Int32) (mval : Int32) (W : Nat → Nat → Int32) (past : Nat → Int32) (nac : Nat) (imgs : Nat → Int32) (kept : Nat → Int32) (gvn : Nat → Int32) (costs : Nat → Int32) (lst : Nat → Int32) (sets : Nat → Int32) (bst : Int32) (mlo : Int64) (mal : Int32) (mpr : Nat → Int64) (lak : Nat → Int64) (trc : Nat → Int32) (ntr : Nat) : List mC := [.inr (8, [.ref (b + 1), .ref (b + 2), .ref (b + 3), .ref (b + 4), .int stat, .ref (b + 5), .int (nI taped), .int fk, .int fp, .int (nI mat), .int (nI mst), .int tok, .int mval, .ref (b + (6 + 0)), .ref (b + (6 + 1)), .ref (b + (6 + 2)), .ref (b + 9), .int (nI nac), .ref (b + 10), .ref (b + 11), .ref (b + 12), .ref (b + 13), .ref (b + 14), .ref (b + 15), .int bst, .long mlo, .int mal, .ref (b + 16), .ref (b + 17), .ref (b + 18), .int (nI ntr)]), .inl (0, 8, .inl lane), .inl (0, 8, .inl (fun j => nI (many j))), .inl (0, 320, .inl items), .inl (0, 40, .inl spare), .inl (0, 120, .inl tape), .inl (0, 41, .inl (W 0)), .inl (0, 41, .inl (W 1)), .inl (0, 41, .inl (W 2)), .inl (0, 656, .inl past), .inl (0, 82, .inl imgs), .inl (2, 2, .inl kept), .inl (0, 4, .inl gvn), .inl (0, 486, .inl costs), .inl (0, 9072, .inl lst), .inl (0, 6, .inl sets), .inl (1, 6, .inr (.inl mpr)), .inl (1, 6, .inr (.inl lak)), .inl (0, 16, .inl trc)]
theorem modL_W {b : Nat} {lane : Nat → Int32} {many : Nat → Nat} {items : Nat → Int32} {spare : Nat → Int32} {stat : Int32} {tape : Nat → Int32} {taped : Nat} {fk : Int32} {fp : Int32} {mat : Nat} {mst : Nat} {tok : Int32} {mval : Int32} {W : Nat → Nat → Int32} {past : Nat → Int32} {nac : Nat} {imgs : Nat → Int32} {kept : Nat → Int32} {gvn : Nat → Int32} {costs : Nat → Int32} {lst : Nat → Int32} {sets : Nat → Int32} {bst : Int32} {mlo : Int64} {mal : Int32} {mpr : Nat → Int64} {lak : Nat → Int64} {trc : Nat → Int32} {ntr : Nat} {i : Nat} (hi : i < 3) : (modL b lane many items spare stat tape taped fk fp mat mst tok mval W past nac imgs kept gvn costs lst sets bst mlo mal mpr lak trc ntr)[6 + i]? = some (.inl (0, 41, .inl (W i))) := by
  match i, hi with
  | 0, _ => rfl
  | 1, _ => rfl
  | 2, _ => rfl
theorem modL_Wset {b : Nat} {lane : Nat → Int32} {many : Nat → Nat} {items : Nat → Int32} {spare : Nat → Int32} {stat : Int32} {tape : Nat → Int32} {taped : Nat} {fk : Int32} {fp : Int32} {mat : Nat} {mst : Nat} {tok : Int32} {mval : Int32} {W : Nat → Nat → Int32} {past : Nat → Int32} {nac : Nat} {imgs : Nat → Int32} {kept : Nat → Int32} {gvn : Nat → Int32} {costs : Nat → Int32} {lst : Nat → Int32} {sets : Nat → Int32} {bst : Int32} {mlo : Int64} {mal : Int32} {mpr : Nat → Int64} {lak : Nat → Int64} {trc : Nat → Int32} {ntr : Nat} {i : Nat} {f : Nat → Int32} (hi : i < 3) : (modL b lane many items spare stat tape taped fk fp mat mst tok mval W past nac imgs kept gvn costs lst sets bst mlo mal mpr lak trc ntr).set (6 + i) (.inl (0, 41, .inl f)) = modL b lane many items spare stat tape taped fk fp mat mst tok mval (va_up W i f) past nac imgs kept gvn costs lst sets bst mlo mal mpr lak trc ntr := by
  match i, hi with
  | 0, _ => rfl
  | 1, _ => rfl
  | 2, _ => rfl
def ar41 (_ : Nat) (f : Nat → Int32) : List mC := [.inl (0, 41, .inl f)]

def f_Model_in (v : Int32) (lo : Int32) (hi : Int32) : Int32 := if v < lo then (0 : Int32) else if hi < v then (0 : Int32) else (1 : Int32)
set_option maxRecDepth 20000 in
set_option maxHeartbeats 4000000 in
theorem c_Model_in {G : mG} {h : mHp} {v : Int32} {lo : Int32} {hi : Int32}    : Ret G 0 mX8_in [.int v, .int lo, .int hi] h (some (.int (f_Model_in v lo hi))) h := by
  generalize hf : f_Model_in v lo hi = R
  unfold f_Model_in at hf
  refine Ret.of [(0, .int v), (1, .int lo), (2, .int hi)] (by decide) (Nat.le_of_ble_eq_true rfl) rfl ?_
  rintro Z rfl X Y
  refine r_iload_n X 0 dX8_in_0 rfl ?_
  refine r_iload_n X 1 dX8_in_1 rfl ?_
  refine m_join (P := SW Z 15 [] [.int (if v < lo then (0 : Int32) else if hi < v then (0 : Int32) else (1 : Int32))] h) (fun K => ?_) ?_
  · refine r_icmp_lt X 14 dX8_in_2 rfl (fun c1 => ?_) (fun c1 => ?_)
    · skip
      refine r_iconst X (0 : Int32) dX8_in_14 (by decide) ?_
      refine SW.pick [] [] rfl ?_
      try simp only [if_pos c1] at K ⊢
      exact K
    · skip
      refine r_iload_n X 0 dX8_in_5 rfl ?_
      refine r_iload_n X 2 dX8_in_6 rfl ?_
      refine m_join (P := SW Z 15 [] [.int (if hi < v then (0 : Int32) else (1 : Int32))] h) (fun K => ?_) ?_
      · refine r_icmp_gt X 14 dX8_in_7 rfl (fun c2 => ?_) (fun c2 => ?_)
        · skip
          refine r_iconst X (0 : Int32) dX8_in_14 (by decide) ?_
          refine SW.pick [] [] rfl ?_
          try simp only [if_pos c2] at K ⊢
          exact K
        · skip
          refine r_iconst X (1 : Int32) dX8_in_10 (by decide) ?_
          refine r_goto X 15 dX8_in_11 rfl ?_
          refine SW.pick [] [] rfl ?_
          try simp only [if_neg c2] at K ⊢
          exact K
      try simp only [if_neg c1] at K ⊢
      exact K
  try subst hf
  exact r_zreturn X Y dX8_in_15 (by (repeat' split) <;> first | exact Or.inl rfl | exact Or.inr rfl) rfl rfl

theorem in_bool (v lo hi : Int32) : f_Model_in v lo hi = 0 ∨ f_Model_in v lo hi = 1 := by
  unfold f_Model_in
  (repeat' split) <;> first | exact Or.inl rfl | exact Or.inr rfl

def f_Model_has (s : Int32) (k : Int32) : Int32 := if ((s >>> (k &&& 31)) &&& (1 : Int32)) = (1 : Int32) then (1 : Int32) else (0 : Int32)
set_option maxRecDepth 20000 in
set_option maxHeartbeats 4000000 in
theorem c_Model_has {G : mG} {h : mHp} {s : Int32} {k : Int32}    : Ret G 0 mX8_has [.int s, .int k] h (some (.int (f_Model_has s k))) h := by
  generalize hf : f_Model_has s k = R
  unfold f_Model_has at hf
  refine Ret.of [(0, .int s), (1, .int k)] (by decide) (Nat.le_of_ble_eq_true rfl) rfl ?_
  rintro Z rfl X Y
  refine r_iload_n X 0 dX8_has_0 rfl ?_
  refine r_iload_n X 1 dX8_has_1 rfl ?_
  refine r_ishr X dX8_has_2 ?_
  refine r_iconst X (1 : Int32) dX8_has_3 (by decide) ?_
  refine r_iand X dX8_has_4 ?_
  refine r_iconst X (1 : Int32) dX8_has_5 (by decide) ?_
  refine m_join (P := SW Z 14 [] [.int (if ((s >>> (k &&& 31)) &&& (1 : Int32)) = (1 : Int32) then (1 : Int32) else (0 : Int32))] h) (fun K => ?_) ?_
  · refine r_icmp_ne X 13 dX8_has_6 rfl (fun c1 => ?_) (fun c1 => ?_)
    · skip
      refine r_iconst X (0 : Int32) dX8_has_13 (by decide) ?_
      refine SW.pick [] [] rfl ?_
      try simp only [if_neg c1] at K ⊢
      exact K
    · skip
      refine r_iconst X (1 : Int32) dX8_has_9 (by decide) ?_
      refine r_goto X 14 dX8_has_10 rfl ?_
      refine SW.pick [] [] rfl ?_
      try simp only [if_pos c1] at K ⊢
      exact K
  try subst hf
  exact r_zreturn X Y dX8_has_14 (by (repeat' split) <;> first | exact Or.inl rfl | exact Or.inr rfl) rfl rfl

def f_Model_ones_L4s (x0 : Int32) (k4 : Nat) (x1 : Int32) : Int32 := x1 + ((x0 >>> ((nI k4) &&& 31)) &&& (1 : Int32))
def f_Model_ones_L4 (x0 : Int32) (x1 : Int32) : Nat → Int32
  | 0 => x1
  | k4 + 1 => f_Model_ones_L4s x0 k4 (f_Model_ones_L4 x0 x1 k4)
def f_Model_ones (s : Int32) : Int32 := (f_Model_ones_L4 s (0 : Int32) 6)
set_option maxRecDepth 20000 in
set_option maxHeartbeats 4000000 in
theorem c_Model_ones {G : mG} {h : mHp} {s : Int32}    : Ret G 0 mX8_ones [.int s] h (some (.int (f_Model_ones s))) h := by
  generalize hf : f_Model_ones s = R
  unfold f_Model_ones at hf
  refine Ret.of [(0, .int s)] (by decide) (Nat.le_of_ble_eq_true rfl) rfl ?_
  rintro Z rfl X Y
  refine r_iconst X (0 : Int32) dX8_ones_0 (by decide) ?_
  refine r_istore_n [(0, .int s), (1, .int (0 : Int32))] X dX8_ones_1 rfl (by decide) rfl ?_
  refine r_iconst X (0 : Int32) dX8_ones_2 (by decide) ?_
  refine r_istore_n [(0, .int s), (1, .int (0 : Int32)), (2, .int (0 : Int32))] X dX8_ones_3 rfl (by decide) rfl ?_
  refine loop_up (P := fun k1 => SW Z 4 [(0, .int s), (1, .int (f_Model_ones_L4 s (0 : Int32) k1)), (2, .int (nI k1))] [] h) 6 ?_ ?_ 0 (Nat.zero_le _)
  rotate_left
  · intro k1 hk1 ih
    refine r_iload_n X 2 dX8_ones_4 rfl ?_
    refine r_bipush X (6 : Int32) dX8_ones_5 (by decide) ?_
    refine r_icmp_ge X 24 dX8_ones_7 rfl (fun z => absurd (nI_lt (a := k1) (b := 6) (by omega) (by omega)) z) (fun _ => ?_)
    refine r_iload_n X 1 dX8_ones_10 rfl ?_
    refine r_iload_n X 0 dX8_ones_11 rfl ?_
    refine r_iload_n X 2 dX8_ones_12 rfl ?_
    refine r_ishr X dX8_ones_13 ?_
    refine r_iconst X (1 : Int32) dX8_ones_14 (by decide) ?_
    refine r_iand X dX8_ones_15 ?_
    refine r_iadd X dX8_ones_16 ?_
    refine r_istore_n [(0, .int s), (1, .int ((f_Model_ones_L4 s (0 : Int32) k1) + ((s >>> ((nI k1) &&& 31)) &&& (1 : Int32)))), (2, .int (nI k1))] X dX8_ones_17 rfl (by decide) rfl ?_
    refine r_iinc [(0, .int s), (1, .int ((f_Model_ones_L4 s (0 : Int32) k1) + ((s >>> ((nI k1) &&& 31)) &&& (1 : Int32)))), (2, .int (nI (k1 + 1)))] X (nI (k1 + 1)) 2 dX8_ones_18 rfl (nI_succ _).symm (by decide) rfl ?_
    refine r_goto X 4 dX8_ones_21 rfl ?_
    exact ih
  refine r_iload_n X 2 dX8_ones_4 rfl ?_
  refine r_bipush X (6 : Int32) dX8_ones_5 (by decide) ?_
  refine r_icmp_ge X 24 dX8_ones_7 rfl (fun _ => ?_) (fun z => absurd z (nI_nlt (a := 6) (b := 6) (by omega) (by omega)))
  refine r_iload_n X 1 dX8_ones_24 rfl ?_
  try subst hf
  exact r_ireturn X Y dX8_ones_25 rfl rfl

def f_Model_isRow (r : Int32) : Int32 := (f_Model_in r (0 : Int32) (7 : Int32))
set_option maxRecDepth 20000 in
set_option maxHeartbeats 4000000 in
theorem c_Model_isRow {G : mG} {h : mHp} {r : Int32}    : Ret G 1 mX8_isRow [.int r] h (some (.int (f_Model_isRow r))) h := by
  generalize hf : f_Model_isRow r = R
  unfold f_Model_isRow at hf
  refine Ret.of [(0, .int r)] (by decide) (Nat.le_of_ble_eq_true rfl) rfl ?_
  rintro Z rfl X Y
  refine r_iload_n X 0 dX8_isRow_0 rfl ?_
  refine r_iconst X (0 : Int32) dX8_isRow_1 (by decide) ?_
  refine r_bipush X (7 : Int32) dX8_isRow_2 (by decide) ?_
  refine cl_X8_72 X (by decide) dX8_isRow_4 (Nat.le_of_ble_eq_true rfl) (c_Model_in  ) ?_
  try subst hf
  exact r_zreturn X Y dX8_isRow_7 (in_bool _ _ _) rfl rfl

def f_Model_lowest (la : Int32) (v : Int32) : Int32 := if la = (0 : Int32) then (v <<< ((24 : Int32) &&& 31)) >>> ((24 : Int32) &&& 31) else if la = (1 : Int32) then (v <<< ((16 : Int32) &&& 31)) >>> ((16 : Int32) &&& 31) else v
set_option maxRecDepth 20000 in
set_option maxHeartbeats 4000000 in
theorem c_Model_lowest {G : mG} {h : mHp} {la : Int32} {v : Int32}    : Ret G 0 mX8_lowest [.int la, .int v] h (some (.int (f_Model_lowest la v))) h := by
  generalize hf : f_Model_lowest la v = R
  unfold f_Model_lowest at hf
  refine Ret.of [(0, .int la), (1, .int v)] (by decide) (Nat.le_of_ble_eq_true rfl) rfl ?_
  rintro Z rfl X Y
  refine r_iload_n X 0 dX8_lowest_0 rfl ?_
  refine m_join (P := SW Z 30 [] [.int (if la = (0 : Int32) then (v <<< ((24 : Int32) &&& 31)) >>> ((24 : Int32) &&& 31) else if la = (1 : Int32) then (v <<< ((16 : Int32) &&& 31)) >>> ((16 : Int32) &&& 31) else v)] h) (fun K => ?_) ?_
  · refine r_if_ne X 14 dX8_lowest_1 rfl (fun c1 => ?_) (fun c1 => ?_)
    · skip
      refine r_iload_n X 0 dX8_lowest_14 rfl ?_
      refine r_iconst X (1 : Int32) dX8_lowest_15 (by decide) ?_
      refine m_join (P := SW Z 30 [] [.int (if la = (1 : Int32) then (v <<< ((16 : Int32) &&& 31)) >>> ((16 : Int32) &&& 31) else v)] h) (fun K => ?_) ?_
      · refine r_icmp_ne X 29 dX8_lowest_16 rfl (fun c2 => ?_) (fun c2 => ?_)
        · skip
          refine r_iload_n X 1 dX8_lowest_29 rfl ?_
          refine SW.pick [] [] rfl ?_
          try simp only [if_neg c2] at K ⊢
          exact K
        · skip
          refine r_iload_n X 1 dX8_lowest_19 rfl ?_
          refine r_bipush X (16 : Int32) dX8_lowest_20 (by decide) ?_
          refine r_ishl X dX8_lowest_22 ?_
          refine r_bipush X (16 : Int32) dX8_lowest_23 (by decide) ?_
          refine r_ishr X dX8_lowest_25 ?_
          refine r_goto X 30 dX8_lowest_26 rfl ?_
          refine SW.pick [] [] rfl ?_
          try simp only [if_pos c2] at K ⊢
          exact K
      try simp only [if_neg c1] at K ⊢
      exact K
    · skip
      refine r_iload_n X 1 dX8_lowest_4 rfl ?_
      refine r_bipush X (24 : Int32) dX8_lowest_5 (by decide) ?_
      refine r_ishl X dX8_lowest_7 ?_
      refine r_bipush X (24 : Int32) dX8_lowest_8 (by decide) ?_
      refine r_ishr X dX8_lowest_10 ?_
      refine r_goto X 30 dX8_lowest_11 rfl ?_
      refine SW.pick [] [] rfl ?_
      try simp only [if_pos c1] at K ⊢
      exact K
  try subst hf
  exact r_ireturn X Y dX8_lowest_30 rfl rfl

def f_Model_kindOf (c : Int32) : Int32 := if c = (112 : Int32) then (1 : Int32) else if c = (113 : Int32) then (2 : Int32) else if c = (115 : Int32) then (3 : Int32) else if c = (119 : Int32) then (4 : Int32) else if c = (114 : Int32) then (5 : Int32) else (0 : Int32)
set_option maxRecDepth 20000 in
set_option maxHeartbeats 4000000 in
theorem c_Model_kindOf {G : mG} {h : mHp} {c : Int32}    : Ret G 0 mX8_kindOf [.int c] h (some (.int (f_Model_kindOf c))) h := by
  generalize hf : f_Model_kindOf c = R
  unfold f_Model_kindOf at hf
  refine Ret.of [(0, .int c)] (by decide) (Nat.le_of_ble_eq_true rfl) rfl ?_
  rintro Z rfl X Y
  refine r_iload_n X 0 dX8_kindOf_0 rfl ?_
  refine r_bipush X (112 : Int32) dX8_kindOf_1 (by decide) ?_
  refine m_join (P := SW Z 51 [] [.int (if c = (112 : Int32) then (1 : Int32) else if c = (113 : Int32) then (2 : Int32) else if c = (115 : Int32) then (3 : Int32) else if c = (119 : Int32) then (4 : Int32) else if c = (114 : Int32) then (5 : Int32) else (0 : Int32))] h) (fun K => ?_) ?_
  · refine r_icmp_ne X 10 dX8_kindOf_3 rfl (fun c1 => ?_) (fun c1 => ?_)
    · skip
      refine r_iload_n X 0 dX8_kindOf_10 rfl ?_
      refine r_bipush X (113 : Int32) dX8_kindOf_11 (by decide) ?_
      refine m_join (P := SW Z 51 [] [.int (if c = (113 : Int32) then (2 : Int32) else if c = (115 : Int32) then (3 : Int32) else if c = (119 : Int32) then (4 : Int32) else if c = (114 : Int32) then (5 : Int32) else (0 : Int32))] h) (fun K => ?_) ?_
      · refine r_icmp_ne X 20 dX8_kindOf_13 rfl (fun c2 => ?_) (fun c2 => ?_)
        · skip
          refine r_iload_n X 0 dX8_kindOf_20 rfl ?_
          refine r_bipush X (115 : Int32) dX8_kindOf_21 (by decide) ?_
          refine m_join (P := SW Z 51 [] [.int (if c = (115 : Int32) then (3 : Int32) else if c = (119 : Int32) then (4 : Int32) else if c = (114 : Int32) then (5 : Int32) else (0 : Int32))] h) (fun K => ?_) ?_
          · refine r_icmp_ne X 30 dX8_kindOf_23 rfl (fun c3 => ?_) (fun c3 => ?_)
            · skip
              refine r_iload_n X 0 dX8_kindOf_30 rfl ?_
              refine r_bipush X (119 : Int32) dX8_kindOf_31 (by decide) ?_
              refine m_join (P := SW Z 51 [] [.int (if c = (119 : Int32) then (4 : Int32) else if c = (114 : Int32) then (5 : Int32) else (0 : Int32))] h) (fun K => ?_) ?_
              · refine r_icmp_ne X 40 dX8_kindOf_33 rfl (fun c4 => ?_) (fun c4 => ?_)
                · skip
                  refine r_iload_n X 0 dX8_kindOf_40 rfl ?_
                  refine r_bipush X (114 : Int32) dX8_kindOf_41 (by decide) ?_
                  refine m_join (P := SW Z 51 [] [.int (if c = (114 : Int32) then (5 : Int32) else (0 : Int32))] h) (fun K => ?_) ?_
                  · refine r_icmp_ne X 50 dX8_kindOf_43 rfl (fun c5 => ?_) (fun c5 => ?_)
                    · skip
                      refine r_iconst X (0 : Int32) dX8_kindOf_50 (by decide) ?_
                      refine SW.pick [] [] rfl ?_
                      try simp only [if_neg c5] at K ⊢
                      exact K
                    · skip
                      refine r_iconst X (5 : Int32) dX8_kindOf_46 (by decide) ?_
                      refine r_goto X 51 dX8_kindOf_47 rfl ?_
                      refine SW.pick [] [] rfl ?_
                      try simp only [if_pos c5] at K ⊢
                      exact K
                  try simp only [if_neg c4] at K ⊢
                  exact K
                · skip
                  refine r_iconst X (4 : Int32) dX8_kindOf_36 (by decide) ?_
                  refine r_goto X 51 dX8_kindOf_37 rfl ?_
                  refine SW.pick [] [] rfl ?_
                  try simp only [if_pos c4] at K ⊢
                  exact K
              try simp only [if_neg c3] at K ⊢
              exact K
            · skip
              refine r_iconst X (3 : Int32) dX8_kindOf_26 (by decide) ?_
              refine r_goto X 51 dX8_kindOf_27 rfl ?_
              refine SW.pick [] [] rfl ?_
              try simp only [if_pos c3] at K ⊢
              exact K
          try simp only [if_neg c2] at K ⊢
          exact K
        · skip
          refine r_iconst X (2 : Int32) dX8_kindOf_16 (by decide) ?_
          refine r_goto X 51 dX8_kindOf_17 rfl ?_
          refine SW.pick [] [] rfl ?_
          try simp only [if_pos c2] at K ⊢
          exact K
      try simp only [if_neg c1] at K ⊢
      exact K
    · skip
      refine r_iconst X (1 : Int32) dX8_kindOf_6 (by decide) ?_
      refine r_goto X 51 dX8_kindOf_7 rfl ?_
      refine SW.pick [] [] rfl ?_
      try simp only [if_pos c1] at K ⊢
      exact K
  try subst hf
  exact r_ireturn X Y dX8_kindOf_51 rfl rfl

def f_Model_starts (s : Int32) (hr : Int32) : Int32 := if (f_Model_has s hr) = (0 : Int32) then (0 : Int32) else if hr = (0 : Int32) then (1 : Int32) else if (f_Model_has s (hr - (1 : Int32))) = (0 : Int32) then (1 : Int32) else (0 : Int32)
set_option maxRecDepth 20000 in
set_option maxHeartbeats 4000000 in
theorem c_Model_starts {G : mG} {h : mHp} {s : Int32} {hr : Int32}    : Ret G 1 mX8_starts [.int s, .int hr] h (some (.int (f_Model_starts s hr))) h := by
  generalize hf : f_Model_starts s hr = R
  unfold f_Model_starts at hf
  refine Ret.of [(0, .int s), (1, .int hr)] (by decide) (Nat.le_of_ble_eq_true rfl) rfl ?_
  rintro Z rfl X Y
  refine r_iload_n X 0 dX8_starts_0 rfl ?_
  refine r_iload_n X 1 dX8_starts_1 rfl ?_
  refine cl_X8_165 X (by decide) dX8_starts_2 (Nat.le_of_ble_eq_true rfl) (c_Model_has  ) ?_
  refine m_join (P := SW Z 27 [] [.int (if (f_Model_has s hr) = (0 : Int32) then (0 : Int32) else if hr = (0 : Int32) then (1 : Int32) else if (f_Model_has s (hr - (1 : Int32))) = (0 : Int32) then (1 : Int32) else (0 : Int32))] h) (fun K => ?_) ?_
  · refine r_if_eq X 26 dX8_starts_5 rfl (fun c1 => ?_) (fun c1 => ?_)
    · skip
      refine r_iconst X (0 : Int32) dX8_starts_26 (by decide) ?_
      refine SW.pick [] [] rfl ?_
      try simp only [if_pos c1] at K ⊢
      exact K
    · skip
      refine r_iload_n X 1 dX8_starts_8 rfl ?_
      refine m_join (P := SW Z 27 [] [.int (if hr = (0 : Int32) then (1 : Int32) else if (f_Model_has s (hr - (1 : Int32))) = (0 : Int32) then (1 : Int32) else (0 : Int32))] h) (fun K => ?_) ?_
      · refine r_if_eq X 22 dX8_starts_9 rfl (fun c2 => ?_) (fun c2 => ?_)
        · skip
          refine r_iconst X (1 : Int32) dX8_starts_22 (by decide) ?_
          refine r_goto X 27 dX8_starts_23 rfl ?_
          refine SW.pick [] [] rfl ?_
          try simp only [if_pos c2] at K ⊢
          exact K
        · skip
          refine r_iload_n X 0 dX8_starts_12 rfl ?_
          refine r_iload_n X 1 dX8_starts_13 rfl ?_
          refine r_iconst X (1 : Int32) dX8_starts_14 (by decide) ?_
          refine r_isub X dX8_starts_15 ?_
          refine cl_X8_165 X (by decide) dX8_starts_16 (Nat.le_of_ble_eq_true rfl) (c_Model_has  ) ?_
          refine m_join (P := SW Z 27 [] [.int (if (f_Model_has s (hr - (1 : Int32))) = (0 : Int32) then (1 : Int32) else (0 : Int32))] h) (fun K => ?_) ?_
          · refine r_if_ne X 26 dX8_starts_19 rfl (fun c3 => ?_) (fun c3 => ?_)
            · skip
              refine r_iconst X (0 : Int32) dX8_starts_26 (by decide) ?_
              refine SW.pick [] [] rfl ?_
              try simp only [if_neg c3] at K ⊢
              exact K
            · skip
              refine r_iconst X (1 : Int32) dX8_starts_22 (by decide) ?_
              refine r_goto X 27 dX8_starts_23 rfl ?_
              refine SW.pick [] [] rfl ?_
              try simp only [if_pos c3] at K ⊢
              exact K
          try simp only [if_neg c2] at K ⊢
          exact K
      try simp only [if_neg c1] at K ⊢
      exact K
  try subst hf
  exact r_zreturn X Y dX8_starts_27 (by (repeat' split) <;> first | exact Or.inl rfl | exact Or.inr rfl) rfl rfl

def f_copies_L3s (f : Nat → Int32) (n1 : Nat) (n3 : Nat) (k3 : Nat) (g : Nat → Int32) : (Nat → Int32) := upd g (n3 + k3) (f (n1 + k3))
def f_copies_L3 (f : Nat → Int32) (n1 : Nat) (n3 : Nat) (g : Nat → Int32) : Nat → (Nat → Int32)
  | 0 => g
  | k3 + 1 => f_copies_L3s f n1 n3 k3 (f_copies_L3 f n1 n3 g k3)
def f_copies (f : Nat → Int32) (g : Nat → Int32) (a : Nat) (c : Nat) : (Nat → Int32) := (f_copies_L3 f a c g 41)
set_option maxRecDepth 20000 in
set_option maxHeartbeats 4000000 in
theorem c_copies {G : mG} {h : mHp} {x : Nat} {y : Nat} {N : Nat} {f : Nat → Int32} {K : Nat} {g : Nat → Int32} {a : Nat} {c : Nat} (hw_x : isV h x (arI x N f)) (dj_x_y : x + 1 ≤ y ∨ y + 1 ≤ x) (hN : a + 41 ≤ N) (hK : c + 41 ≤ K) (hN2 : N < 2 ^ 31) (hK2 : K < 2 ^ 31) : Ret G 0 mX8_copies [.ref x, .int (nI a), .ref y, .int (nI c)] (ov h y (arI y K g)) none (ov h y (arI y K (f_copies f g a c))) := by
  generalize hf : f_copies f g a c = R
  unfold f_copies at hf
  refine Ret.of [(0, .ref x), (1, .int (nI a)), (2, .ref y), (3, .int (nI c))] (by decide) (Nat.le_of_ble_eq_true rfl) rfl ?_
  rintro Z rfl X Y
  have hv_x : isV (ov h y (arI y K g)) x (arI x N f) := isV_ov dj_x_y (hw_x)
  have hv_y : isV (ov h y (arI y K g)) y (arI y K g) := ov_isV
  refine r_iconst X (0 : Int32) dX8_copies_0 (by first | decide | omega) ?_
  refine r_istore [(0, .ref x), (1, .int (nI a)), (2, .ref y), (3, .int (nI c)), (4, .int (0 : Int32))] X dX8_copies_1 (by decide) rfl ?_
  refine loop_up (P := fun k1 => SW Z 3 [(0, .ref x), (1, .int (nI a)), (2, .ref y), (3, .int (nI c)), (4, .int (nI k1))] [] (ov h y (arI y K (f_copies_L3 f a c g k1)))) 41 ?_ ?_ 0 (Nat.zero_le _)
  rotate_left
  · intro k1 hk1 ih
    have hv_x : isV (ov h y (arI y K (f_copies_L3 f a c g k1))) x (arI x N f) := isV_ov dj_x_y (hw_x)
    have hv_y : isV (ov h y (arI y K (f_copies_L3 f a c g k1))) y (arI y K (f_copies_L3 f a c g k1)) := ov_isV
    refine r_iload X 4 dX8_copies_3 rfl ?_
    refine r_bipush X (41 : Int32) dX8_copies_5 (by first | decide | omega) ?_
    refine r_icmp_ge X 28 dX8_copies_7 rfl (fun z => absurd (nI_lt (a := k1) (b := 41) (by omega) (by omega)) z) (fun _ => ?_)
    refine r_aload_n X 2 dX8_copies_10 rfl ?_
    refine r_iload_n X 3 dX8_copies_11 rfl ?_
    refine r_iload X 4 dX8_copies_12 rfl ?_
    refine r_iaddn X (a := c) (b := k1) dX8_copies_14 ?_
    refine r_aload_n X 0 dX8_copies_15 rfl ?_
    refine r_iload_n X 1 dX8_copies_16 rfl ?_
    refine r_iload X 4 dX8_copies_17 rfl ?_
    refine r_iaddn X (a := a) (b := k1) dX8_copies_19 ?_
    refine r_ialdn X (k0 := a + k1) dX8_copies_20 (hv_x 0 _ rfl) (by omega) (by first | decide | omega) ?_
    refine r_iastn X (k0 := c + k1) dX8_copies_21 (hv_y 0 _ rfl) (by omega) (by first | decide | omega) ?_
    refine SW.heq (h2 := (ov h y (arI y K (upd (f_copies_L3 f a c g k1) (c + k1) (f (a + k1)))))) (ov_up 0 (Nat.le_of_ble_eq_true rfl) rfl) ?_
    have hv_x : isV (ov h y (arI y K (upd (f_copies_L3 f a c g k1) (c + k1) (f (a + k1))))) x (arI x N f) := isV_ov dj_x_y (hw_x)
    have hv_y : isV (ov h y (arI y K (upd (f_copies_L3 f a c g k1) (c + k1) (f (a + k1))))) y (arI y K (upd (f_copies_L3 f a c g k1) (c + k1) (f (a + k1)))) := ov_isV
    refine r_iinc [(0, .ref x), (1, .int (nI a)), (2, .ref y), (3, .int (nI c)), (4, .int (nI (k1 + 1)))] X (nI (k1 + 1)) 4 dX8_copies_22 rfl (nI_succ _).symm (by decide) rfl ?_
    refine r_goto X 3 dX8_copies_25 rfl ?_
    exact ih
  have hv_x : isV (ov h y (arI y K (f_copies_L3 f a c g 41))) x (arI x N f) := isV_ov dj_x_y (hw_x)
  have hv_y : isV (ov h y (arI y K (f_copies_L3 f a c g 41))) y (arI y K (f_copies_L3 f a c g 41)) := ov_isV
  refine r_iload X 4 dX8_copies_3 rfl ?_
  refine r_bipush X (41 : Int32) dX8_copies_5 (by first | decide | omega) ?_
  refine r_icmp_ge X 28 dX8_copies_7 rfl (fun _ => ?_) (fun z => absurd z (nI_nlt (a := 41) (b := 41) (by omega) (by omega)))
  try subst hf
  exact r_return X Y dX8_copies_28 rfl rfl

theorem c_copies_up {G : mG} {h : mHp} {x y N K a c : Nat} {f g : Nat → Int32} (hx : h x = some (.inl (0, N, .inl f))) (hy : h y = some (.inl (0, K, .inl g))) (hxy : x + 1 ≤ y ∨ y + 1 ≤ x) (hN : a + 41 ≤ N ∧ N < 2 ^ 31) (hK : c + 41 ≤ K ∧ K < 2 ^ 31) : Ret G 0 mX8_copies [.ref x, .int (nI a), .ref y, .int (nI c)] h none (va_up h y (some (.inl (0, K, .inl (f_copies f g a c))))) := by
  have h1 := c_copies (G := G) (h := h) (x := x) (y := y) (N := N) (f := f) (K := K) (g := g) (a := a) (c := c) (isV1 hx) hxy hN.1 hK.1 hN.2 hK.2
  unfold arI at h1
  rw [ov1_self hy, ov1_up hy] at h1
  exact h1

def f_Model_found (fi : Int32) : Int32 × Int32 := ((-1000010 : Int32) - fi, fi)
set_option maxRecDepth 20000 in
set_option maxHeartbeats 4000000 in
theorem c_Model_found {G : mG} {h : mHp} {b : Nat} {lane : Nat → Int32} {many : Nat → Nat} {items : Nat → Int32} {spare : Nat → Int32} {stat : Int32} {tape : Nat → Int32} {taped : Nat} {fk : Int32} {fp : Int32} {mat : Nat} {mst : Nat} {tok : Int32} {mval : Int32} {W : Nat → Nat → Int32} {past : Nat → Int32} {nac : Nat} {imgs : Nat → Int32} {kept : Nat → Int32} {gvn : Nat → Int32} {costs : Nat → Int32} {lst : Nat → Int32} {sets : Nat → Int32} {bst : Int32} {mlo : Int64} {mal : Int32} {mpr : Nat → Int64} {lak : Nat → Int64} {trc : Nat → Int32} {ntr : Nat} {fi : Int32}    : Ret G 0 mX8_found [.ref b, .int fi] (ov h b (modL b lane many items spare stat tape taped fk fp mat mst tok mval W past nac imgs kept gvn costs lst sets bst mlo mal mpr lak trc ntr)) (some (.int (f_Model_found fi).1)) (ov h b (modL b lane many items spare (f_Model_found fi).2 tape taped fk fp mat mst tok mval W past nac imgs kept gvn costs lst sets bst mlo mal mpr lak trc ntr)) := by
  generalize hf : f_Model_found fi = R
  unfold f_Model_found at hf
  refine Ret.of [(0, .ref b), (1, .int fi)] (by decide) (Nat.le_of_ble_eq_true rfl) rfl ?_
  rintro Z rfl X Y
  have hv_b : isV (ov h b (modL b lane many items spare stat tape taped fk fp mat mst tok mval W past nac imgs kept gvn costs lst sets bst mlo mal mpr lak trc ntr)) b (modL b lane many items spare stat tape taped fk fp mat mst tok mval W past nac imgs kept gvn costs lst sets bst mlo mal mpr lak trc ntr) := ov_isV
  refine r_aload_n X 0 dX8_found_0 rfl ?_
  refine r_iload_n X 1 dX8_found_1 rfl ?_
  refine pf_X8_67 X dX8_found_2 (hv_b 0 _ rfl) (Nat.le_of_ble_eq_true rfl) ?_
  refine SW.heq (h2 := (ov h b (modL b lane many items spare fi tape taped fk fp mat mst tok mval W past nac imgs kept gvn costs lst sets bst mlo mal mpr lak trc ntr))) (ov_up 0 (Nat.le_of_ble_eq_true rfl) rfl) ?_
  have hv_b : isV (ov h b (modL b lane many items spare fi tape taped fk fp mat mst tok mval W past nac imgs kept gvn costs lst sets bst mlo mal mpr lak trc ntr)) b (modL b lane many items spare fi tape taped fk fp mat mst tok mval W past nac imgs kept gvn costs lst sets bst mlo mal mpr lak trc ntr) := ov_isV
  refine r_ldc X dX8_found_5 kk_X8_71 ?_
  refine r_iload_n X 1 dX8_found_7 rfl ?_
  refine r_isub X dX8_found_8 ?_
  try subst hf
  exact r_ireturn X Y dX8_found_9 rfl rfl

def f_Model_well (v : Int32) : Int32 × Int32 := (v, (0 : Int32))
set_option maxRecDepth 20000 in
set_option maxHeartbeats 4000000 in
theorem c_Model_well {G : mG} {h : mHp} {b : Nat} {lane : Nat → Int32} {many : Nat → Nat} {items : Nat → Int32} {spare : Nat → Int32} {stat : Int32} {tape : Nat → Int32} {taped : Nat} {fk : Int32} {fp : Int32} {mat : Nat} {mst : Nat} {tok : Int32} {mval : Int32} {W : Nat → Nat → Int32} {past : Nat → Int32} {nac : Nat} {imgs : Nat → Int32} {kept : Nat → Int32} {gvn : Nat → Int32} {costs : Nat → Int32} {lst : Nat → Int32} {sets : Nat → Int32} {bst : Int32} {mlo : Int64} {mal : Int32} {mpr : Nat → Int64} {lak : Nat → Int64} {trc : Nat → Int32} {ntr : Nat} {v : Int32}    : Ret G 0 mX8_well [.ref b, .int v] (ov h b (modL b lane many items spare stat tape taped fk fp mat mst tok mval W past nac imgs kept gvn costs lst sets bst mlo mal mpr lak trc ntr)) (some (.int (f_Model_well v).1)) (ov h b (modL b lane many items spare (f_Model_well v).2 tape taped fk fp mat mst tok mval W past nac imgs kept gvn costs lst sets bst mlo mal mpr lak trc ntr)) := by
  generalize hf : f_Model_well v = R
  unfold f_Model_well at hf
  refine Ret.of [(0, .ref b), (1, .int v)] (by decide) (Nat.le_of_ble_eq_true rfl) rfl ?_
  rintro Z rfl X Y
  have hv_b : isV (ov h b (modL b lane many items spare stat tape taped fk fp mat mst tok mval W past nac imgs kept gvn costs lst sets bst mlo mal mpr lak trc ntr)) b (modL b lane many items spare stat tape taped fk fp mat mst tok mval W past nac imgs kept gvn costs lst sets bst mlo mal mpr lak trc ntr) := ov_isV
  refine r_aload_n X 0 dX8_well_0 rfl ?_
  refine r_iconst X (0 : Int32) dX8_well_1 (by decide) ?_
  refine pf_X8_67 X dX8_well_2 (hv_b 0 _ rfl) (Nat.le_of_ble_eq_true rfl) ?_
  refine SW.heq (h2 := (ov h b (modL b lane many items spare (0 : Int32) tape taped fk fp mat mst tok mval W past nac imgs kept gvn costs lst sets bst mlo mal mpr lak trc ntr))) (ov_up 0 (Nat.le_of_ble_eq_true rfl) rfl) ?_
  have hv_b : isV (ov h b (modL b lane many items spare (0 : Int32) tape taped fk fp mat mst tok mval W past nac imgs kept gvn costs lst sets bst mlo mal mpr lak trc ntr)) b (modL b lane many items spare (0 : Int32) tape taped fk fp mat mst tok mval W past nac imgs kept gvn costs lst sets bst mlo mal mpr lak trc ntr) := ov_isV
  refine r_iload_n X 1 dX8_well_5 rfl ?_
  try subst hf
  exact r_ireturn X Y dX8_well_6 rfl rfl

def f_Model_isMissing (lane : Nat → Int32) (r : Nat) : Int32 := if (lane r) = (-1000000 : Int32) then (1 : Int32) else (0 : Int32)
set_option maxRecDepth 20000 in
set_option maxHeartbeats 4000000 in
theorem c_Model_isMissing {G : mG} {h : mHp} {b : Nat} {lane : Nat → Int32} {many : Nat → Nat} {items : Nat → Int32} {spare : Nat → Int32} {stat : Int32} {tape : Nat → Int32} {taped : Nat} {fk : Int32} {fp : Int32} {mat : Nat} {mst : Nat} {tok : Int32} {mval : Int32} {W : Nat → Nat → Int32} {past : Nat → Int32} {nac : Nat} {imgs : Nat → Int32} {kept : Nat → Int32} {gvn : Nat → Int32} {costs : Nat → Int32} {lst : Nat → Int32} {sets : Nat → Int32} {bst : Int32} {mlo : Int64} {mal : Int32} {mpr : Nat → Int64} {lak : Nat → Int64} {trc : Nat → Int32} {ntr : Nat} {r : Nat} (hv_b : isV h b (modL b lane many items spare stat tape taped fk fp mat mst tok mval W past nac imgs kept gvn costs lst sets bst mlo mal mpr lak trc ntr))  (hr : r < 8) : Ret G 0 mX8_isMissing [.ref b, .int (nI r)] h (some (.int (f_Model_isMissing lane r))) h := by
  generalize hf : f_Model_isMissing lane r = R
  unfold f_Model_isMissing at hf
  refine Ret.of [(0, .ref b), (1, .int (nI r))] (by decide) (Nat.le_of_ble_eq_true rfl) rfl ?_
  rintro Z rfl X Y
  refine r_aload_n X 0 dX8_isMissing_0 rfl ?_
  refine gf_X8_7 X dX8_isMissing_1 (hv_b 0 _ rfl) rfl ?_
  refine r_iload_n X 1 dX8_isMissing_4 rfl ?_
  refine r_ialdn X (k0 := r) dX8_isMissing_5 (hv_b 1 _ rfl) (by omega) (by decide) ?_
  refine r_ldc X dX8_isMissing_6 kk_X8_66 ?_
  refine m_join (P := SW Z 16 [] [.int (if (lane r) = (-1000000 : Int32) then (1 : Int32) else (0 : Int32))] h) (fun K => ?_) ?_
  · refine r_icmp_ne X 15 dX8_isMissing_8 rfl (fun c1 => ?_) (fun c1 => ?_)
    · skip
      refine r_iconst X (0 : Int32) dX8_isMissing_15 (by decide) ?_
      refine SW.pick [] [] rfl ?_
      try simp only [if_neg c1] at K ⊢
      exact K
    · skip
      refine r_iconst X (1 : Int32) dX8_isMissing_11 (by decide) ?_
      refine r_goto X 16 dX8_isMissing_12 rfl ?_
      refine SW.pick [] [] rfl ?_
      try simp only [if_pos c1] at K ⊢
      exact K
  try subst hf
  exact r_zreturn X Y dX8_isMissing_16 (by (repeat' split) <;> first | exact Or.inl rfl | exact Or.inr rfl) rfl rfl

def f_Model_isPart (many : Nat → Nat) (r : Nat) (i : Int32) (n : Int32) : Int32 := if i < (0 : Int32) then (0 : Int32) else if n < (0 : Int32) then (0 : Int32) else if (nI (many r)) < i then (0 : Int32) else if ((nI (many r)) - i) < n then (0 : Int32) else (1 : Int32)
set_option maxRecDepth 20000 in
set_option maxHeartbeats 4000000 in
theorem c_Model_isPart {G : mG} {h : mHp} {b : Nat} {lane : Nat → Int32} {many : Nat → Nat} {items : Nat → Int32} {spare : Nat → Int32} {stat : Int32} {tape : Nat → Int32} {taped : Nat} {fk : Int32} {fp : Int32} {mat : Nat} {mst : Nat} {tok : Int32} {mval : Int32} {W : Nat → Nat → Int32} {past : Nat → Int32} {nac : Nat} {imgs : Nat → Int32} {kept : Nat → Int32} {gvn : Nat → Int32} {costs : Nat → Int32} {lst : Nat → Int32} {sets : Nat → Int32} {bst : Int32} {mlo : Int64} {mal : Int32} {mpr : Nat → Int64} {lak : Nat → Int64} {trc : Nat → Int32} {ntr : Nat} {r : Nat} {i : Int32} {n : Int32} (hv_b : isV h b (modL b lane many items spare stat tape taped fk fp mat mst tok mval W past nac imgs kept gvn costs lst sets bst mlo mal mpr lak trc ntr))  (hr : r < 8) : Ret G 0 mX8_isPart [.ref b, .int (nI r), .int i, .int n] h (some (.int (f_Model_isPart many r i n))) h := by
  generalize hf : f_Model_isPart many r i n = R
  unfold f_Model_isPart at hf
  refine Ret.of [(0, .ref b), (1, .int (nI r)), (2, .int i), (3, .int n)] (by decide) (Nat.le_of_ble_eq_true rfl) rfl ?_
  rintro Z rfl X Y
  refine r_iload_n X 2 dX8_isPart_0 rfl ?_
  refine m_join (P := SW Z 35 [] [.int (if i < (0 : Int32) then (0 : Int32) else if n < (0 : Int32) then (0 : Int32) else if (nI (many r)) < i then (0 : Int32) else if ((nI (many r)) - i) < n then (0 : Int32) else (1 : Int32))] h) (fun K => ?_) ?_
  · refine r_if_lt X 34 dX8_isPart_1 rfl (fun c1 => ?_) (fun c1 => ?_)
    · skip
      refine r_iconst X (0 : Int32) dX8_isPart_34 (by decide) ?_
      refine SW.pick [] [] rfl ?_
      try simp only [if_pos c1] at K ⊢
      exact K
    · skip
      refine r_iload_n X 3 dX8_isPart_4 rfl ?_
      refine m_join (P := SW Z 35 [] [.int (if n < (0 : Int32) then (0 : Int32) else if (nI (many r)) < i then (0 : Int32) else if ((nI (many r)) - i) < n then (0 : Int32) else (1 : Int32))] h) (fun K => ?_) ?_
      · refine r_if_lt X 34 dX8_isPart_5 rfl (fun c2 => ?_) (fun c2 => ?_)
        · skip
          refine r_iconst X (0 : Int32) dX8_isPart_34 (by decide) ?_
          refine SW.pick [] [] rfl ?_
          try simp only [if_pos c2] at K ⊢
          exact K
        · skip
          refine r_iload_n X 2 dX8_isPart_8 rfl ?_
          refine r_aload_n X 0 dX8_isPart_9 rfl ?_
          refine gf_X8_13 X dX8_isPart_10 (hv_b 0 _ rfl) rfl ?_
          refine r_iload_n X 1 dX8_isPart_13 rfl ?_
          refine r_ialdn X (k0 := r) dX8_isPart_14 (hv_b 2 _ rfl) (by omega) (by decide) ?_
          refine m_join (P := SW Z 35 [] [.int (if (nI (many r)) < i then (0 : Int32) else if ((nI (many r)) - i) < n then (0 : Int32) else (1 : Int32))] h) (fun K => ?_) ?_
          · refine r_icmp_gt X 34 dX8_isPart_15 rfl (fun c3 => ?_) (fun c3 => ?_)
            · skip
              refine r_iconst X (0 : Int32) dX8_isPart_34 (by decide) ?_
              refine SW.pick [] [] rfl ?_
              try simp only [if_pos c3] at K ⊢
              exact K
            · skip
              refine r_iload_n X 3 dX8_isPart_18 rfl ?_
              refine r_aload_n X 0 dX8_isPart_19 rfl ?_
              refine gf_X8_13 X dX8_isPart_20 (hv_b 0 _ rfl) rfl ?_
              refine r_iload_n X 1 dX8_isPart_23 rfl ?_
              refine r_ialdn X (k0 := r) dX8_isPart_24 (hv_b 2 _ rfl) (by omega) (by decide) ?_
              refine r_iload_n X 2 dX8_isPart_25 rfl ?_
              refine r_isub X dX8_isPart_26 ?_
              refine m_join (P := SW Z 35 [] [.int (if ((nI (many r)) - i) < n then (0 : Int32) else (1 : Int32))] h) (fun K => ?_) ?_
              · refine r_icmp_gt X 34 dX8_isPart_27 rfl (fun c4 => ?_) (fun c4 => ?_)
                · skip
                  refine r_iconst X (0 : Int32) dX8_isPart_34 (by decide) ?_
                  refine SW.pick [] [] rfl ?_
                  try simp only [if_pos c4] at K ⊢
                  exact K
                · skip
                  refine r_iconst X (1 : Int32) dX8_isPart_30 (by decide) ?_
                  refine r_goto X 35 dX8_isPart_31 rfl ?_
                  refine SW.pick [] [] rfl ?_
                  try simp only [if_neg c4] at K ⊢
                  exact K
              try simp only [if_neg c3] at K ⊢
              exact K
          try simp only [if_neg c2] at K ⊢
          exact K
      try simp only [if_neg c1] at K ⊢
      exact K
  try subst hf
  exact r_zreturn X Y dX8_isPart_35 (by (repeat' split) <;> first | exact Or.inl rfl | exact Or.inr rfl) rfl rfl

def f_Model_byteAt (tape : Nat → Int32) (taped : Nat) (k : Nat) : Int32 := if (nI k) < (nI taped) then tape k else (-1 : Int32)
set_option maxRecDepth 20000 in
set_option maxHeartbeats 4000000 in
theorem c_Model_byteAt {G : mG} {h : mHp} {b : Nat} {lane : Nat → Int32} {many : Nat → Nat} {items : Nat → Int32} {spare : Nat → Int32} {stat : Int32} {tape : Nat → Int32} {taped : Nat} {fk : Int32} {fp : Int32} {mat : Nat} {mst : Nat} {tok : Int32} {mval : Int32} {W : Nat → Nat → Int32} {past : Nat → Int32} {nac : Nat} {imgs : Nat → Int32} {kept : Nat → Int32} {gvn : Nat → Int32} {costs : Nat → Int32} {lst : Nat → Int32} {sets : Nat → Int32} {bst : Int32} {mlo : Int64} {mal : Int32} {mpr : Nat → Int64} {lak : Nat → Int64} {trc : Nat → Int32} {ntr : Nat} {k : Nat} (hv_b : isV h b (modL b lane many items spare stat tape taped fk fp mat mst tok mval W past nac imgs kept gvn costs lst sets bst mlo mal mpr lak trc ntr))  (ht : taped ≤ 120) (hk : k < 1000) : Ret G 0 mX8_byteAt [.ref b, .int (nI k)] h (some (.int (f_Model_byteAt tape taped k))) h := by
  generalize hf : f_Model_byteAt tape taped k = R
  unfold f_Model_byteAt at hf
  refine Ret.of [(0, .ref b), (1, .int (nI k))] (by decide) (Nat.le_of_ble_eq_true rfl) rfl ?_
  rintro Z rfl X Y
  refine r_iload_n X 1 dX8_byteAt_0 rfl ?_
  refine r_aload_n X 0 dX8_byteAt_1 rfl ?_
  refine gf_X8_98 X dX8_byteAt_2 (hv_b 0 _ rfl) rfl ?_
  refine m_join (P := SW Z 18 [] [.int (if (nI k) < (nI taped) then tape k else (-1 : Int32))] h) (fun K => ?_) ?_
  · refine r_icmp_ge X 17 dX8_byteAt_5 rfl (fun c0 => ?_) (fun c0 => ?_)
    · skip
      refine r_iconst X (-1 : Int32) dX8_byteAt_17 (by decide) ?_
      refine SW.pick [] [] rfl ?_
      try simp only [if_neg c0] at K ⊢
      exact K
    · skip
      have hx := nI_ltX c0 (by omega) (by omega)
      refine r_aload_n X 0 dX8_byteAt_8 rfl ?_
      refine gf_X8_22 X dX8_byteAt_9 (hv_b 0 _ rfl) rfl ?_
      refine r_iload_n X 1 dX8_byteAt_12 rfl ?_
      refine r_ialdn X (k0 := k) dX8_byteAt_13 (hv_b 5 _ rfl) (by omega) (by decide) ?_
      refine r_goto X 18 dX8_byteAt_14 rfl ?_
      refine SW.pick [] [] rfl ?_
      try simp only [if_pos c0] at K ⊢
      exact K
  try subst hf
  exact r_ireturn X Y dX8_byteAt_18 rfl rfl

def f_Model_isWell (fp : Int32) : Int32 := if fp < (0 : Int32) then (1 : Int32) else (0 : Int32)
set_option maxRecDepth 20000 in
set_option maxHeartbeats 4000000 in
theorem c_Model_isWell {G : mG} {h : mHp} {b : Nat} {lane : Nat → Int32} {many : Nat → Nat} {items : Nat → Int32} {spare : Nat → Int32} {stat : Int32} {tape : Nat → Int32} {taped : Nat} {fk : Int32} {fp : Int32} {mat : Nat} {mst : Nat} {tok : Int32} {mval : Int32} {W : Nat → Nat → Int32} {past : Nat → Int32} {nac : Nat} {imgs : Nat → Int32} {kept : Nat → Int32} {gvn : Nat → Int32} {costs : Nat → Int32} {lst : Nat → Int32} {sets : Nat → Int32} {bst : Int32} {mlo : Int64} {mal : Int32} {mpr : Nat → Int64} {lak : Nat → Int64} {trc : Nat → Int32} {ntr : Nat} (hv_b : isV h b (modL b lane many items spare stat tape taped fk fp mat mst tok mval W past nac imgs kept gvn costs lst sets bst mlo mal mpr lak trc ntr))   : Ret G 0 mX8_isWell [.ref b] h (some (.int (f_Model_isWell fp))) h := by
  generalize hf : f_Model_isWell fp = R
  unfold f_Model_isWell at hf
  refine Ret.of [(0, .ref b)] (by decide) (Nat.le_of_ble_eq_true rfl) rfl ?_
  rintro Z rfl X Y
  refine r_aload_n X 0 dX8_isWell_0 rfl ?_
  refine gf_X8_117 X dX8_isWell_1 (hv_b 0 _ rfl) rfl ?_
  refine m_join (P := SW Z 12 [] [.int (if fp < (0 : Int32) then (1 : Int32) else (0 : Int32))] h) (fun K => ?_) ?_
  · refine r_if_ge X 11 dX8_isWell_4 rfl (fun c1 => ?_) (fun c1 => ?_)
    · skip
      refine r_iconst X (0 : Int32) dX8_isWell_11 (by decide) ?_
      refine SW.pick [] [] rfl ?_
      try simp only [if_neg c1] at K ⊢
      exact K
    · skip
      refine r_iconst X (1 : Int32) dX8_isWell_7 (by decide) ?_
      refine r_goto X 12 dX8_isWell_8 rfl ?_
      refine SW.pick [] [] rfl ?_
      try simp only [if_pos c1] at K ⊢
      exact K
  try subst hf
  exact r_zreturn X Y dX8_isWell_12 (by (repeat' split) <;> first | exact Or.inl rfl | exact Or.inr rfl) rfl rfl

def f_Model_sortOf (f : Nat → Int32) (u : Nat) : Int32 := f (9 + (8 * u))
set_option maxRecDepth 20000 in
set_option maxHeartbeats 4000000 in
theorem c_Model_sortOf {G : mG} {h : mHp} {w : Nat} {f : Nat → Int32} {u : Nat} (hv_w : isV h w (ar41 w f))  (hu : u < 4) : Ret G 0 mX8_sortOf [.ref w, .int (nI u)] h (some (.int (f_Model_sortOf f u))) h := by
  generalize hf : f_Model_sortOf f u = R
  unfold f_Model_sortOf at hf
  refine Ret.of [(0, .ref w), (1, .int (nI u))] (by decide) (Nat.le_of_ble_eq_true rfl) rfl ?_
  rintro Z rfl X Y
  refine r_aload_n X 0 dX8_sortOf_0 rfl ?_
  refine r_bipush X (9 : Int32) dX8_sortOf_1 (by decide) ?_
  refine r_bipush X (8 : Int32) dX8_sortOf_3 (by decide) ?_
  refine r_iload_n X 1 dX8_sortOf_5 rfl ?_
  refine r_imuln X (a := 8) (b := u) dX8_sortOf_6 ?_
  refine r_iaddn X (a := 9) (b := 8 * u) dX8_sortOf_7 ?_
  refine r_ialdn X (k0 := 9 + (8 * u)) dX8_sortOf_8 (hv_w 0 _ rfl) (by omega) (by decide) ?_
  try subst hf
  exact r_ireturn X Y dX8_sortOf_9 rfl rfl

def f_Model_floor (f : Nat → Int32) (u : Nat) : Int32 := if (f_Model_sortOf f u) < (4 : Int32) then f ((9 + (8 * u)) + 1) else (0 : Int32)
set_option maxRecDepth 20000 in
set_option maxHeartbeats 4000000 in
theorem c_Model_floor {G : mG} {h : mHp} {w : Nat} {f : Nat → Int32} {u : Nat} (hv_w : isV h w (ar41 w f))  (hu : u < 4) : Ret G 1 mX8_floor [.ref w, .int (nI u)] h (some (.int (f_Model_floor f u))) h := by
  generalize hf : f_Model_floor f u = R
  unfold f_Model_floor at hf
  refine Ret.of [(0, .ref w), (1, .int (nI u))] (by decide) (Nat.le_of_ble_eq_true rfl) rfl ?_
  rintro Z rfl X Y
  refine r_aload_n X 0 dX8_floor_0 rfl ?_
  refine r_iload_n X 1 dX8_floor_1 rfl ?_
  refine cl_X8_161 X (by decide) dX8_floor_2 (Nat.le_of_ble_eq_true rfl) (c_Model_sortOf (isV1 (hv_w 0 _ rfl)) (by first | assumption | omega)) ?_
  refine r_iconst X (4 : Int32) dX8_floor_5 (by decide) ?_
  refine m_join (P := SW Z 24 [] [.int (if (f_Model_sortOf f u) < (4 : Int32) then f ((9 + (8 * u)) + 1) else (0 : Int32))] h) (fun K => ?_) ?_
  · refine r_icmp_lt X 13 dX8_floor_6 rfl (fun c1 => ?_) (fun c1 => ?_)
    · skip
      refine r_aload_n X 0 dX8_floor_13 rfl ?_
      refine r_bipush X (9 : Int32) dX8_floor_14 (by decide) ?_
      refine r_bipush X (8 : Int32) dX8_floor_16 (by decide) ?_
      refine r_iload_n X 1 dX8_floor_18 rfl ?_
      refine r_imuln X (a := 8) (b := u) dX8_floor_19 ?_
      refine r_iaddn X (a := 9) (b := 8 * u) dX8_floor_20 ?_
      refine r_iconst X (1 : Int32) dX8_floor_21 (by decide) ?_
      refine r_iaddn X (a := 9 + (8 * u)) (b := 1) dX8_floor_22 ?_
      refine r_ialdn X (k0 := (9 + (8 * u)) + 1) dX8_floor_23 (hv_w 0 _ rfl) (by omega) (by decide) ?_
      refine SW.pick [] [] rfl ?_
      try simp only [if_pos c1] at K ⊢
      exact K
    · skip
      refine r_iconst X (0 : Int32) dX8_floor_9 (by decide) ?_
      refine r_goto X 24 dX8_floor_10 rfl ?_
      refine SW.pick [] [] rfl ?_
      try simp only [if_neg c1] at K ⊢
      exact K
  try subst hf
  exact r_ireturn X Y dX8_floor_24 rfl rfl

def f_Model_roof (f : Nat → Int32) (u : Nat) (z : Int32) : Int32 := if (f_Model_sortOf f u) = (3 : Int32) then if z = (0 : Int32) then f ((9 + (8 * u)) + 2) else f ((9 + (8 * u)) + 1) else f ((9 + (8 * u)) + 2)
set_option maxRecDepth 20000 in
set_option maxHeartbeats 4000000 in
theorem c_Model_roof {G : mG} {h : mHp} {w : Nat} {f : Nat → Int32} {u : Nat} {z : Int32} (hv_w : isV h w (ar41 w f))  (hu : u < 4) : Ret G 1 mX8_roof [.ref w, .int (nI u), .int z] h (some (.int (f_Model_roof f u z))) h := by
  generalize hf : f_Model_roof f u z = R
  unfold f_Model_roof at hf
  refine Ret.of [(0, .ref w), (1, .int (nI u)), (2, .int z)] (by decide) (Nat.le_of_ble_eq_true rfl) rfl ?_
  rintro Z rfl X Y
  refine r_aload_n X 0 dX8_roof_0 rfl ?_
  refine r_iload_n X 1 dX8_roof_1 rfl ?_
  refine cl_X8_161 X (by decide) dX8_roof_2 (Nat.le_of_ble_eq_true rfl) (c_Model_sortOf (isV1 (hv_w 0 _ rfl)) (by first | assumption | omega)) ?_
  refine r_iconst X (3 : Int32) dX8_roof_5 (by decide) ?_
  refine m_join (P := SW Z 38 [] [.int (if (f_Model_sortOf f u) = (3 : Int32) then if z = (0 : Int32) then f ((9 + (8 * u)) + 2) else f ((9 + (8 * u)) + 1) else f ((9 + (8 * u)) + 2))] h) (fun K => ?_) ?_
  · refine r_icmp_ne X 27 dX8_roof_6 rfl (fun c1 => ?_) (fun c1 => ?_)
    · skip
      refine r_aload_n X 0 dX8_roof_27 rfl ?_
      refine r_bipush X (9 : Int32) dX8_roof_28 (by decide) ?_
      refine r_bipush X (8 : Int32) dX8_roof_30 (by decide) ?_
      refine r_iload_n X 1 dX8_roof_32 rfl ?_
      refine r_imuln X (a := 8) (b := u) dX8_roof_33 ?_
      refine r_iaddn X (a := 9) (b := 8 * u) dX8_roof_34 ?_
      refine r_iconst X (2 : Int32) dX8_roof_35 (by decide) ?_
      refine r_iaddn X (a := 9 + (8 * u)) (b := 2) dX8_roof_36 ?_
      refine r_ialdn X (k0 := (9 + (8 * u)) + 2) dX8_roof_37 (hv_w 0 _ rfl) (by omega) (by decide) ?_
      refine SW.pick [] [] rfl ?_
      try simp only [if_neg c1] at K ⊢
      exact K
    · skip
      refine r_iload_n X 2 dX8_roof_9 rfl ?_
      refine m_join (P := SW Z 38 [] [.int (if z = (0 : Int32) then f ((9 + (8 * u)) + 2) else f ((9 + (8 * u)) + 1))] h) (fun K => ?_) ?_
      · refine r_if_eq X 27 dX8_roof_10 rfl (fun c2 => ?_) (fun c2 => ?_)
        · skip
          refine r_aload_n X 0 dX8_roof_27 rfl ?_
          refine r_bipush X (9 : Int32) dX8_roof_28 (by decide) ?_
          refine r_bipush X (8 : Int32) dX8_roof_30 (by decide) ?_
          refine r_iload_n X 1 dX8_roof_32 rfl ?_
          refine r_imuln X (a := 8) (b := u) dX8_roof_33 ?_
          refine r_iaddn X (a := 9) (b := 8 * u) dX8_roof_34 ?_
          refine r_iconst X (2 : Int32) dX8_roof_35 (by decide) ?_
          refine r_iaddn X (a := 9 + (8 * u)) (b := 2) dX8_roof_36 ?_
          refine r_ialdn X (k0 := (9 + (8 * u)) + 2) dX8_roof_37 (hv_w 0 _ rfl) (by omega) (by decide) ?_
          refine SW.pick [] [] rfl ?_
          try simp only [if_pos c2] at K ⊢
          exact K
        · skip
          refine r_aload_n X 0 dX8_roof_13 rfl ?_
          refine r_bipush X (9 : Int32) dX8_roof_14 (by decide) ?_
          refine r_bipush X (8 : Int32) dX8_roof_16 (by decide) ?_
          refine r_iload_n X 1 dX8_roof_18 rfl ?_
          refine r_imuln X (a := 8) (b := u) dX8_roof_19 ?_
          refine r_iaddn X (a := 9) (b := 8 * u) dX8_roof_20 ?_
          refine r_iconst X (1 : Int32) dX8_roof_21 (by decide) ?_
          refine r_iaddn X (a := 9 + (8 * u)) (b := 1) dX8_roof_22 ?_
          refine r_ialdn X (k0 := (9 + (8 * u)) + 1) dX8_roof_23 (hv_w 0 _ rfl) (by omega) (by decide) ?_
          refine r_goto X 38 dX8_roof_24 rfl ?_
          refine SW.pick [] [] rfl ?_
          try simp only [if_neg c2] at K ⊢
          exact K
      try simp only [if_pos c1] at K ⊢
      exact K
  try subst hf
  exact r_ireturn X Y dX8_roof_38 rfl rfl

def f_Model_startCost (f : Nat → Int32) (u : Nat) : Int32 := if (f_Model_sortOf f u) < (4 : Int32) then if (f_Model_sortOf f u) = (2 : Int32) then (f ((9 + (8 * u)) + 4)) / (2 : Int32) else f ((9 + (8 * u)) + 4) else (0 : Int32)
set_option maxRecDepth 20000 in
set_option maxHeartbeats 4000000 in
theorem c_Model_startCost {G : mG} {h : mHp} {w : Nat} {f : Nat → Int32} {u : Nat} (hv_w : isV h w (ar41 w f))  (hu : u < 4) : Ret G 1 mX8_startCost [.ref w, .int (nI u)] h (some (.int (f_Model_startCost f u))) h := by
  generalize hf : f_Model_startCost f u = R
  unfold f_Model_startCost at hf
  refine Ret.of [(0, .ref w), (1, .int (nI u))] (by decide) (Nat.le_of_ble_eq_true rfl) rfl ?_
  rintro Z rfl X Y
  refine r_aload_n X 0 dX8_startCost_0 rfl ?_
  refine r_bipush X (9 : Int32) dX8_startCost_1 (by decide) ?_
  refine r_bipush X (8 : Int32) dX8_startCost_3 (by decide) ?_
  refine r_iload_n X 1 dX8_startCost_5 rfl ?_
  refine r_imuln X (a := 8) (b := u) dX8_startCost_6 ?_
  refine r_iaddn X (a := 9) (b := 8 * u) dX8_startCost_7 ?_
  refine r_iconst X (4 : Int32) dX8_startCost_8 (by decide) ?_
  refine r_iaddn X (a := 9 + (8 * u)) (b := 4) dX8_startCost_9 ?_
  refine r_ialdn X (k0 := (9 + (8 * u)) + 4) dX8_startCost_10 (hv_w 0 _ rfl) (by omega) (by decide) ?_
  refine r_istore_n [(0, .ref w), (1, .int (nI u)), (2, .int (f ((9 + (8 * u)) + 4)))] X dX8_startCost_11 rfl (by decide) rfl ?_
  refine r_aload_n X 0 dX8_startCost_12 rfl ?_
  refine r_iload_n X 1 dX8_startCost_13 rfl ?_
  refine cl_X8_161 X (by decide) dX8_startCost_14 (Nat.le_of_ble_eq_true rfl) (c_Model_sortOf (isV1 (hv_w 0 _ rfl)) (by first | assumption | omega)) ?_
  refine r_iconst X (4 : Int32) dX8_startCost_17 (by decide) ?_
  refine m_join (P := SW Z 41 [] [.int (if (f_Model_sortOf f u) < (4 : Int32) then if (f_Model_sortOf f u) = (2 : Int32) then (f ((9 + (8 * u)) + 4)) / (2 : Int32) else f ((9 + (8 * u)) + 4) else (0 : Int32))] h) (fun K => ?_) ?_
  · refine r_icmp_lt X 25 dX8_startCost_18 rfl (fun c1 => ?_) (fun c1 => ?_)
    · skip
      refine r_aload_n X 0 dX8_startCost_25 rfl ?_
      refine r_iload_n X 1 dX8_startCost_26 rfl ?_
      refine cl_X8_161 X (by decide) dX8_startCost_27 (Nat.le_of_ble_eq_true rfl) (c_Model_sortOf (isV1 (hv_w 0 _ rfl)) (by first | assumption | omega)) ?_
      refine r_iconst X (2 : Int32) dX8_startCost_30 (by decide) ?_
      refine m_join (P := SW Z 41 [] [.int (if (f_Model_sortOf f u) = (2 : Int32) then (f ((9 + (8 * u)) + 4)) / (2 : Int32) else f ((9 + (8 * u)) + 4))] h) (fun K => ?_) ?_
      · refine r_icmp_ne X 40 dX8_startCost_31 rfl (fun c2 => ?_) (fun c2 => ?_)
        · skip
          refine r_iload_n X 2 dX8_startCost_40 rfl ?_
          refine SW.pick [] [] rfl ?_
          try simp only [if_neg c2] at K ⊢
          exact K
        · skip
          refine r_iload_n X 2 dX8_startCost_34 rfl ?_
          refine r_iconst X (2 : Int32) dX8_startCost_35 (by decide) ?_
          refine r_idiv X dX8_startCost_36 (by decide) ?_
          refine r_goto X 41 dX8_startCost_37 rfl ?_
          refine SW.pick [] [] rfl ?_
          try simp only [if_pos c2] at K ⊢
          exact K
      try simp only [if_pos c1] at K ⊢
      exact K
    · skip
      refine r_iconst X (0 : Int32) dX8_startCost_21 (by decide) ?_
      refine r_goto X 41 dX8_startCost_22 rfl ?_
      refine SW.pick [] [] rfl ?_
      try simp only [if_neg c1] at K ⊢
      exact K
  try subst hf
  exact r_ireturn X Y dX8_startCost_41 rfl rfl

def f_Model_startsOf_L4s (x1 : Int32) (k4 : Nat) (x2 : Int32) : Int32 := x2 ||| (if (f_Model_starts x1 (nI k4)) = (0 : Int32) then (0 : Int32) else (1 : Int32) <<< ((nI k4) &&& 31))
def f_Model_startsOf_L4 (x1 : Int32) (x2 : Int32) : Nat → Int32
  | 0 => x2
  | k4 + 1 => f_Model_startsOf_L4s x1 k4 (f_Model_startsOf_L4 x1 x2 k4)
def f_Model_startsOf (s : Int32) (Hh : Nat) : Int32 := (f_Model_startsOf_L4 s (0 : Int32) Hh)
set_option maxRecDepth 20000 in
set_option maxHeartbeats 4000000 in
theorem c_Model_startsOf {G : mG} {h : mHp} {w : Nat} {f : Nat → Int32} {s : Int32} {Hh : Nat} (hv_w : isV h w (ar41 w f))  (h1 : f 1 = nI Hh) (hH : Hh ≤ 6) : Ret G 2 mX8_startsOf [.ref w, .int s] h (some (.int (f_Model_startsOf s Hh))) h := by
  generalize hf : f_Model_startsOf s Hh = R
  unfold f_Model_startsOf at hf
  refine Ret.of [(0, .ref w), (1, .int s)] (by decide) (Nat.le_of_ble_eq_true rfl) rfl ?_
  rintro Z rfl X Y
  refine r_iconst X (0 : Int32) dX8_startsOf_0 (by decide) ?_
  refine r_istore_n [(0, .ref w), (1, .int s), (2, .int (0 : Int32))] X dX8_startsOf_1 rfl (by decide) rfl ?_
  refine r_iconst X (0 : Int32) dX8_startsOf_2 (by decide) ?_
  refine r_istore_n [(0, .ref w), (1, .int s), (2, .int (0 : Int32)), (3, .int (0 : Int32))] X dX8_startsOf_3 rfl (by decide) rfl ?_
  refine loop_up (P := fun k2 => SW Z 4 [(0, .ref w), (1, .int s), (2, .int (f_Model_startsOf_L4 s (0 : Int32) k2)), (3, .int (nI k2))] [] h) Hh ?_ ?_ 0 (Nat.zero_le _)
  rotate_left
  · intro k2 hk2 ih
    refine r_iload_n X 3 dX8_startsOf_4 rfl ?_
    refine r_aload_n X 0 dX8_startsOf_5 rfl ?_
    refine r_iconst X (1 : Int32) dX8_startsOf_6 (by decide) ?_
    refine r_ialdv X (v := nI Hh) (k0 := 1) dX8_startsOf_7 (hv_w 0 _ rfl) (by omega) (by decide) h1 ?_
    refine r_icmp_ge X 35 dX8_startsOf_8 rfl (fun z => absurd (nI_lt (a := k2) (b := Hh) (by omega) (by omega)) z) (fun _ => ?_)
    refine r_iload_n X 2 dX8_startsOf_11 rfl ?_
    refine r_iload_n X 1 dX8_startsOf_12 rfl ?_
    refine r_iload_n X 3 dX8_startsOf_13 rfl ?_
    refine cl_X8_169 X (by decide) dX8_startsOf_14 (Nat.le_of_ble_eq_true rfl) (c_Model_starts  ) ?_
    refine m_join (P := SW Z 27 [(0, .ref w), (1, .int s), (3, .int (nI k2))] [.int (if (f_Model_starts s (nI k2)) = (0 : Int32) then (0 : Int32) else (1 : Int32) <<< ((nI k2) &&& 31)), .int (f_Model_startsOf_L4 s (0 : Int32) k2)] h) (fun K => ?_) ?_
    · refine r_if_eq X 26 dX8_startsOf_17 rfl (fun c3 => ?_) (fun c3 => ?_)
      · skip
        refine r_iconst X (0 : Int32) dX8_startsOf_26 (by decide) ?_
        refine SW.pick [0, 1, 3] [(0, .ref w), (1, .int s), (3, .int (nI k2))] rfl ?_
        try simp only [if_pos c3] at K ⊢
        exact K
      · skip
        refine r_iconst X (1 : Int32) dX8_startsOf_20 (by decide) ?_
        refine r_iload_n X 3 dX8_startsOf_21 rfl ?_
        refine r_ishl X dX8_startsOf_22 ?_
        refine r_goto X 27 dX8_startsOf_23 rfl ?_
        refine SW.pick [0, 1, 3] [(0, .ref w), (1, .int s), (3, .int (nI k2))] rfl ?_
        try simp only [if_neg c3] at K ⊢
        exact K
    refine r_ior X dX8_startsOf_27 ?_
    refine r_istore_n [(0, .ref w), (1, .int s), (2, .int ((f_Model_startsOf_L4 s (0 : Int32) k2) ||| (if (f_Model_starts s (nI k2)) = (0 : Int32) then (0 : Int32) else (1 : Int32) <<< ((nI k2) &&& 31)))), (3, .int (nI k2))] X dX8_startsOf_28 rfl (by decide) rfl ?_
    refine r_iinc [(0, .ref w), (1, .int s), (2, .int ((f_Model_startsOf_L4 s (0 : Int32) k2) ||| (if (f_Model_starts s (nI k2)) = (0 : Int32) then (0 : Int32) else (1 : Int32) <<< ((nI k2) &&& 31)))), (3, .int (nI (k2 + 1)))] X (nI (k2 + 1)) 3 dX8_startsOf_29 rfl (nI_succ _).symm (by decide) rfl ?_
    refine r_goto X 4 dX8_startsOf_32 rfl ?_
    exact ih
  refine r_iload_n X 3 dX8_startsOf_4 rfl ?_
  refine r_aload_n X 0 dX8_startsOf_5 rfl ?_
  refine r_iconst X (1 : Int32) dX8_startsOf_6 (by decide) ?_
  refine r_ialdv X (v := nI Hh) (k0 := 1) dX8_startsOf_7 (hv_w 0 _ rfl) (by omega) (by decide) h1 ?_
  refine r_icmp_ge X 35 dX8_startsOf_8 rfl (fun _ => ?_) (fun z => absurd z (nI_nlt (a := Hh) (b := Hh) (by omega) (by omega)))
  refine r_iload_n X 2 dX8_startsOf_35 rfl ?_
  try subst hf
  exact r_ireturn X Y dX8_startsOf_36 rfl rfl

def f_Model_keeps_L44s (f : Nat → Int32) (n1 : Nat) (x2 : Int32) (k44 : Nat) (x3 : Int32) (x4 : Int32) (x5 : Int32) : Int32 × Int32 × Int32 := (if (f_Model_has x2 (nI k44)) = (0 : Int32) then if x3 = (0 : Int32) then (0 : Int32) else if x4 = (0 : Int32) then (1 : Int32) else if x4 < (f ((9 + (8 * n1)) + 5)) then (0 : Int32) else (1 : Int32) else if x3 = (0 : Int32) then (0 : Int32) else if (0 : Int32) < x4 then (1 : Int32) else if x5 < (f ((9 + (8 * n1)) + 6)) then (0 : Int32) else (1 : Int32), if (f_Model_has x2 (nI k44)) = (0 : Int32) then (0 : Int32) else x4 + (1 : Int32), if (f_Model_has x2 (nI k44)) = (0 : Int32) then x5 + (1 : Int32) else (0 : Int32))
def f_Model_keeps_L44 (f : Nat → Int32) (n1 : Nat) (x2 : Int32) (x3 : Int32) (x4 : Int32) (x5 : Int32) : Nat → Int32 × Int32 × Int32
  | 0 => (x3, x4, x5)
  | k44 + 1 => f_Model_keeps_L44s f n1 x2 k44 ((f_Model_keeps_L44 f n1 x2 x3 x4 x5 k44).1) ((f_Model_keeps_L44 f n1 x2 x3 x4 x5 k44).2.1) ((f_Model_keeps_L44 f n1 x2 x3 x4 x5 k44).2.2)
theorem mkeeps_bool {f : Nat → Int32} {n1 : Nat} {x2 : Int32} {x3 : Int32} {x4 : Int32} {x5 : Int32} (h : x3 = 0 ∨ x3 = 1) : ∀ k, (f_Model_keeps_L44 f n1 x2 x3 x4 x5 k).1 = 0 ∨ (f_Model_keeps_L44 f n1 x2 x3 x4 x5 k).1 = 1 := by
  intro k
  induction k with
  | zero => exact h
  | succ k ih =>
    show (f_Model_keeps_L44s _ _ _ _ _ _ _).1 = 0 ∨ (f_Model_keeps_L44s _ _ _ _ _ _ _).1 = 1
    unfold f_Model_keeps_L44s
    dsimp only
    (repeat' split) <;> first | exact Or.inl rfl | exact Or.inr rfl
def f_Model_keeps (f : Nat → Int32) (u : Nat) (s : Int32) (Hh : Nat) : Int32 := (if (f_Model_sortOf f u) = (5 : Int32) then (if s = (((1 : Int32) <<< ((nI Hh) &&& 31)) - (1 : Int32)) then ((fun q2 => q2.1) (f_Model_keeps_L44 f u s (1 : Int32) (0 : Int32) (f ((9 + (8 * u)) + 6)) Hh)) else (0 : Int32)) else ((fun q1 => q1.1) (f_Model_keeps_L44 f u s (1 : Int32) (0 : Int32) (f ((9 + (8 * u)) + 6)) Hh)))
set_option maxRecDepth 20000 in
set_option maxHeartbeats 4000000 in
theorem c_Model_keeps {G : mG} {h : mHp} {w : Nat} {f : Nat → Int32} {u : Nat} {s : Int32} {Hh : Nat} (hv_w : isV h w (ar41 w f))  (hu : u < 4) (h1 : f 1 = nI Hh) (hH : Hh ≤ 6) : Ret G 1 mX8_keeps [.ref w, .int (nI u), .int s] h (some (.int (f_Model_keeps f u s Hh))) h := by
  generalize hf : f_Model_keeps f u s Hh = R
  unfold f_Model_keeps at hf
  refine Ret.of [(0, .ref w), (1, .int (nI u)), (2, .int s)] (by decide) (Nat.le_of_ble_eq_true rfl) rfl ?_
  rintro Z rfl X Y
  refine r_aload_n X 0 dX8_keeps_0 rfl ?_
  refine r_iload_n X 1 dX8_keeps_1 rfl ?_
  refine cl_X8_161 X (by decide) dX8_keeps_2 (Nat.le_of_ble_eq_true rfl) (c_Model_sortOf (isV1 (hv_w 0 _ rfl)) (by first | assumption | omega)) ?_
  refine r_iconst X (5 : Int32) dX8_keeps_5 (by decide) ?_
  refine r_icmp_ne X 22 dX8_keeps_6 rfl (fun c1 => ?_) (fun c1 => ?_)
  · rw [if_neg c1] at hf
    refine r_iconst X (1 : Int32) dX8_keeps_22 (by decide) ?_
    refine r_istore_n [(0, .ref w), (1, .int (nI u)), (2, .int s), (3, .int (1 : Int32))] X dX8_keeps_23 rfl (by decide) rfl ?_
    refine r_iconst X (0 : Int32) dX8_keeps_24 (by decide) ?_
    refine r_istore [(0, .ref w), (1, .int (nI u)), (2, .int s), (3, .int (1 : Int32)), (4, .int (0 : Int32))] X dX8_keeps_25 (by decide) rfl ?_
    refine r_aload_n X 0 dX8_keeps_27 rfl ?_
    refine r_bipush X (9 : Int32) dX8_keeps_28 (by decide) ?_
    refine r_bipush X (8 : Int32) dX8_keeps_30 (by decide) ?_
    refine r_iload_n X 1 dX8_keeps_32 rfl ?_
    refine r_imuln X (a := 8) (b := u) dX8_keeps_33 ?_
    refine r_iaddn X (a := 9) (b := 8 * u) dX8_keeps_34 ?_
    refine r_bipush X (6 : Int32) dX8_keeps_35 (by decide) ?_
    refine r_iaddn X (a := 9 + (8 * u)) (b := 6) dX8_keeps_37 ?_
    refine r_ialdn X (k0 := (9 + (8 * u)) + 6) dX8_keeps_38 (hv_w 0 _ rfl) (by omega) (by decide) ?_
    refine r_istore [(0, .ref w), (1, .int (nI u)), (2, .int s), (3, .int (1 : Int32)), (4, .int (0 : Int32)), (5, .int (f ((9 + (8 * u)) + 6)))] X dX8_keeps_39 (by decide) rfl ?_
    refine r_iconst X (0 : Int32) dX8_keeps_41 (by decide) ?_
    refine r_istore [(0, .ref w), (1, .int (nI u)), (2, .int s), (3, .int (1 : Int32)), (4, .int (0 : Int32)), (5, .int (f ((9 + (8 * u)) + 6))), (6, .int (0 : Int32))] X dX8_keeps_42 (by decide) rfl ?_
    refine loop_up (P := fun k9 => SW Z 44 [(0, .ref w), (1, .int (nI u)), (2, .int s), (3, .int ((f_Model_keeps_L44 f u s (1 : Int32) (0 : Int32) (f ((9 + (8 * u)) + 6)) k9).1)), (4, .int ((f_Model_keeps_L44 f u s (1 : Int32) (0 : Int32) (f ((9 + (8 * u)) + 6)) k9).2.1)), (5, .int ((f_Model_keeps_L44 f u s (1 : Int32) (0 : Int32) (f ((9 + (8 * u)) + 6)) k9).2.2)), (6, .int (nI k9))] [] h) Hh ?_ ?_ 0 (Nat.zero_le _)
    rotate_left
    · intro k9 hk9 ih
      refine r_iload X 6 dX8_keeps_44 rfl ?_
      refine r_aload_n X 0 dX8_keeps_46 rfl ?_
      refine r_iconst X (1 : Int32) dX8_keeps_47 (by decide) ?_
      refine r_ialdv X (v := nI Hh) (k0 := 1) dX8_keeps_48 (hv_w 0 _ rfl) (by omega) (by decide) h1 ?_
      refine r_icmp_ge X 145 dX8_keeps_49 rfl (fun z => absurd (nI_lt (a := k9) (b := Hh) (by omega) (by omega)) z) (fun _ => ?_)
      refine r_iload_n X 2 dX8_keeps_52 rfl ?_
      refine r_iload X 6 dX8_keeps_53 rfl ?_
      refine cl_X8_165 X (by decide) dX8_keeps_55 (Nat.le_of_ble_eq_true rfl) (c_Model_has  ) ?_
      refine m_join (P := SW Z 139 [(0, .ref w), (1, .int (nI u)), (2, .int s), (3, .int (if (f_Model_has s (nI k9)) = (0 : Int32) then if ((f_Model_keeps_L44 f u s (1 : Int32) (0 : Int32) (f ((9 + (8 * u)) + 6)) k9).1) = (0 : Int32) then (0 : Int32) else if ((f_Model_keeps_L44 f u s (1 : Int32) (0 : Int32) (f ((9 + (8 * u)) + 6)) k9).2.1) = (0 : Int32) then (1 : Int32) else if ((f_Model_keeps_L44 f u s (1 : Int32) (0 : Int32) (f ((9 + (8 * u)) + 6)) k9).2.1) < (f ((9 + (8 * u)) + 5)) then (0 : Int32) else (1 : Int32) else if ((f_Model_keeps_L44 f u s (1 : Int32) (0 : Int32) (f ((9 + (8 * u)) + 6)) k9).1) = (0 : Int32) then (0 : Int32) else if (0 : Int32) < ((f_Model_keeps_L44 f u s (1 : Int32) (0 : Int32) (f ((9 + (8 * u)) + 6)) k9).2.1) then (1 : Int32) else if ((f_Model_keeps_L44 f u s (1 : Int32) (0 : Int32) (f ((9 + (8 * u)) + 6)) k9).2.2) < (f ((9 + (8 * u)) + 6)) then (0 : Int32) else (1 : Int32))), (4, .int (if (f_Model_has s (nI k9)) = (0 : Int32) then (0 : Int32) else ((f_Model_keeps_L44 f u s (1 : Int32) (0 : Int32) (f ((9 + (8 * u)) + 6)) k9).2.1) + (1 : Int32))), (5, .int (if (f_Model_has s (nI k9)) = (0 : Int32) then ((f_Model_keeps_L44 f u s (1 : Int32) (0 : Int32) (f ((9 + (8 * u)) + 6)) k9).2.2) + (1 : Int32) else (0 : Int32))), (6, .int (nI k9))] [] h) (fun K => ?_) ?_
      · refine r_if_eq X 102 dX8_keeps_58 rfl (fun c10 => ?_) (fun c10 => ?_)
        · skip
          refine r_iload_n X 3 dX8_keeps_102 rfl ?_
          refine m_join (P := SW Z 132 [(0, .ref w), (1, .int (nI u)), (2, .int s), (5, .int ((f_Model_keeps_L44 f u s (1 : Int32) (0 : Int32) (f ((9 + (8 * u)) + 6)) k9).2.2)), (6, .int (nI k9))] [.int (if ((f_Model_keeps_L44 f u s (1 : Int32) (0 : Int32) (f ((9 + (8 * u)) + 6)) k9).1) = (0 : Int32) then (0 : Int32) else if ((f_Model_keeps_L44 f u s (1 : Int32) (0 : Int32) (f ((9 + (8 * u)) + 6)) k9).2.1) = (0 : Int32) then (1 : Int32) else if ((f_Model_keeps_L44 f u s (1 : Int32) (0 : Int32) (f ((9 + (8 * u)) + 6)) k9).2.1) < (f ((9 + (8 * u)) + 5)) then (0 : Int32) else (1 : Int32))] h) (fun K => ?_) ?_
          · refine r_if_eq X 131 dX8_keeps_103 rfl (fun c11 => ?_) (fun c11 => ?_)
            · skip
              refine r_iconst X (0 : Int32) dX8_keeps_131 (by decide) ?_
              refine SW.pick [0, 1, 2, 5, 6] [(0, .ref w), (1, .int (nI u)), (2, .int s), (5, .int ((f_Model_keeps_L44 f u s (1 : Int32) (0 : Int32) (f ((9 + (8 * u)) + 6)) k9).2.2)), (6, .int (nI k9))] rfl ?_
              try simp only [if_pos c11] at K ⊢
              exact K
            · skip
              refine r_iload X 4 dX8_keeps_106 rfl ?_
              refine m_join (P := SW Z 132 [(0, .ref w), (1, .int (nI u)), (2, .int s), (5, .int ((f_Model_keeps_L44 f u s (1 : Int32) (0 : Int32) (f ((9 + (8 * u)) + 6)) k9).2.2)), (6, .int (nI k9))] [.int (if ((f_Model_keeps_L44 f u s (1 : Int32) (0 : Int32) (f ((9 + (8 * u)) + 6)) k9).2.1) = (0 : Int32) then (1 : Int32) else if ((f_Model_keeps_L44 f u s (1 : Int32) (0 : Int32) (f ((9 + (8 * u)) + 6)) k9).2.1) < (f ((9 + (8 * u)) + 5)) then (0 : Int32) else (1 : Int32))] h) (fun K => ?_) ?_
              · refine r_if_eq X 127 dX8_keeps_108 rfl (fun c12 => ?_) (fun c12 => ?_)
                · skip
                  refine r_iconst X (1 : Int32) dX8_keeps_127 (by decide) ?_
                  refine r_goto X 132 dX8_keeps_128 rfl ?_
                  refine SW.pick [0, 1, 2, 5, 6] [(0, .ref w), (1, .int (nI u)), (2, .int s), (5, .int ((f_Model_keeps_L44 f u s (1 : Int32) (0 : Int32) (f ((9 + (8 * u)) + 6)) k9).2.2)), (6, .int (nI k9))] rfl ?_
                  try simp only [if_pos c12] at K ⊢
                  exact K
                · skip
                  refine r_iload X 4 dX8_keeps_111 rfl ?_
                  refine r_aload_n X 0 dX8_keeps_113 rfl ?_
                  refine r_bipush X (9 : Int32) dX8_keeps_114 (by decide) ?_
                  refine r_bipush X (8 : Int32) dX8_keeps_116 (by decide) ?_
                  refine r_iload_n X 1 dX8_keeps_118 rfl ?_
                  refine r_imuln X (a := 8) (b := u) dX8_keeps_119 ?_
                  refine r_iaddn X (a := 9) (b := 8 * u) dX8_keeps_120 ?_
                  refine r_iconst X (5 : Int32) dX8_keeps_121 (by decide) ?_
                  refine r_iaddn X (a := 9 + (8 * u)) (b := 5) dX8_keeps_122 ?_
                  refine r_ialdn X (k0 := (9 + (8 * u)) + 5) dX8_keeps_123 (hv_w 0 _ rfl) (by omega) (by decide) ?_
                  refine m_join (P := SW Z 132 [(0, .ref w), (1, .int (nI u)), (2, .int s), (5, .int ((f_Model_keeps_L44 f u s (1 : Int32) (0 : Int32) (f ((9 + (8 * u)) + 6)) k9).2.2)), (6, .int (nI k9))] [.int (if ((f_Model_keeps_L44 f u s (1 : Int32) (0 : Int32) (f ((9 + (8 * u)) + 6)) k9).2.1) < (f ((9 + (8 * u)) + 5)) then (0 : Int32) else (1 : Int32))] h) (fun K => ?_) ?_
                  · refine r_icmp_lt X 131 dX8_keeps_124 rfl (fun c13 => ?_) (fun c13 => ?_)
                    · skip
                      refine r_iconst X (0 : Int32) dX8_keeps_131 (by decide) ?_
                      refine SW.pick [0, 1, 2, 5, 6] [(0, .ref w), (1, .int (nI u)), (2, .int s), (5, .int ((f_Model_keeps_L44 f u s (1 : Int32) (0 : Int32) (f ((9 + (8 * u)) + 6)) k9).2.2)), (6, .int (nI k9))] rfl ?_
                      try simp only [if_pos c13] at K ⊢
                      exact K
                    · skip
                      refine r_iconst X (1 : Int32) dX8_keeps_127 (by decide) ?_
                      refine r_goto X 132 dX8_keeps_128 rfl ?_
                      refine SW.pick [0, 1, 2, 5, 6] [(0, .ref w), (1, .int (nI u)), (2, .int s), (5, .int ((f_Model_keeps_L44 f u s (1 : Int32) (0 : Int32) (f ((9 + (8 * u)) + 6)) k9).2.2)), (6, .int (nI k9))] rfl ?_
                      try simp only [if_neg c13] at K ⊢
                      exact K
                  try simp only [if_neg c12] at K ⊢
                  exact K
              try simp only [if_neg c11] at K ⊢
              exact K
          refine r_istore_n [(0, .ref w), (1, .int (nI u)), (2, .int s), (3, .int (if ((f_Model_keeps_L44 f u s (1 : Int32) (0 : Int32) (f ((9 + (8 * u)) + 6)) k9).1) = (0 : Int32) then (0 : Int32) else if ((f_Model_keeps_L44 f u s (1 : Int32) (0 : Int32) (f ((9 + (8 * u)) + 6)) k9).2.1) = (0 : Int32) then (1 : Int32) else if ((f_Model_keeps_L44 f u s (1 : Int32) (0 : Int32) (f ((9 + (8 * u)) + 6)) k9).2.1) < (f ((9 + (8 * u)) + 5)) then (0 : Int32) else (1 : Int32))), (5, .int ((f_Model_keeps_L44 f u s (1 : Int32) (0 : Int32) (f ((9 + (8 * u)) + 6)) k9).2.2)), (6, .int (nI k9))] X dX8_keeps_132 rfl (by decide) rfl ?_
          refine r_iconst X (0 : Int32) dX8_keeps_133 (by decide) ?_
          refine r_istore [(0, .ref w), (1, .int (nI u)), (2, .int s), (3, .int (if ((f_Model_keeps_L44 f u s (1 : Int32) (0 : Int32) (f ((9 + (8 * u)) + 6)) k9).1) = (0 : Int32) then (0 : Int32) else if ((f_Model_keeps_L44 f u s (1 : Int32) (0 : Int32) (f ((9 + (8 * u)) + 6)) k9).2.1) = (0 : Int32) then (1 : Int32) else if ((f_Model_keeps_L44 f u s (1 : Int32) (0 : Int32) (f ((9 + (8 * u)) + 6)) k9).2.1) < (f ((9 + (8 * u)) + 5)) then (0 : Int32) else (1 : Int32))), (4, .int (0 : Int32)), (5, .int ((f_Model_keeps_L44 f u s (1 : Int32) (0 : Int32) (f ((9 + (8 * u)) + 6)) k9).2.2)), (6, .int (nI k9))] X dX8_keeps_134 (by decide) rfl ?_
          refine r_iinc [(0, .ref w), (1, .int (nI u)), (2, .int s), (3, .int (if ((f_Model_keeps_L44 f u s (1 : Int32) (0 : Int32) (f ((9 + (8 * u)) + 6)) k9).1) = (0 : Int32) then (0 : Int32) else if ((f_Model_keeps_L44 f u s (1 : Int32) (0 : Int32) (f ((9 + (8 * u)) + 6)) k9).2.1) = (0 : Int32) then (1 : Int32) else if ((f_Model_keeps_L44 f u s (1 : Int32) (0 : Int32) (f ((9 + (8 * u)) + 6)) k9).2.1) < (f ((9 + (8 * u)) + 5)) then (0 : Int32) else (1 : Int32))), (4, .int (0 : Int32)), (5, .int (((f_Model_keeps_L44 f u s (1 : Int32) (0 : Int32) (f ((9 + (8 * u)) + 6)) k9).2.2) + (1 : Int32))), (6, .int (nI k9))] X (((f_Model_keeps_L44 f u s (1 : Int32) (0 : Int32) (f ((9 + (8 * u)) + 6)) k9).2.2) + (1 : Int32)) 5 dX8_keeps_136 rfl rfl (by decide) rfl ?_
          try simp only [if_pos c10] at K ⊢
          exact K
        · skip
          refine r_iload_n X 3 dX8_keeps_61 rfl ?_
          refine m_join (P := SW Z 92 [(0, .ref w), (1, .int (nI u)), (2, .int s), (4, .int ((f_Model_keeps_L44 f u s (1 : Int32) (0 : Int32) (f ((9 + (8 * u)) + 6)) k9).2.1)), (6, .int (nI k9))] [.int (if ((f_Model_keeps_L44 f u s (1 : Int32) (0 : Int32) (f ((9 + (8 * u)) + 6)) k9).1) = (0 : Int32) then (0 : Int32) else if (0 : Int32) < ((f_Model_keeps_L44 f u s (1 : Int32) (0 : Int32) (f ((9 + (8 * u)) + 6)) k9).2.1) then (1 : Int32) else if ((f_Model_keeps_L44 f u s (1 : Int32) (0 : Int32) (f ((9 + (8 * u)) + 6)) k9).2.2) < (f ((9 + (8 * u)) + 6)) then (0 : Int32) else (1 : Int32))] h) (fun K => ?_) ?_
          · refine r_if_eq X 91 dX8_keeps_62 rfl (fun c14 => ?_) (fun c14 => ?_)
            · skip
              refine r_iconst X (0 : Int32) dX8_keeps_91 (by decide) ?_
              refine SW.pick [0, 1, 2, 4, 6] [(0, .ref w), (1, .int (nI u)), (2, .int s), (4, .int ((f_Model_keeps_L44 f u s (1 : Int32) (0 : Int32) (f ((9 + (8 * u)) + 6)) k9).2.1)), (6, .int (nI k9))] rfl ?_
              try simp only [if_pos c14] at K ⊢
              exact K
            · skip
              refine r_iload X 4 dX8_keeps_65 rfl ?_
              refine m_join (P := SW Z 92 [(0, .ref w), (1, .int (nI u)), (2, .int s), (4, .int ((f_Model_keeps_L44 f u s (1 : Int32) (0 : Int32) (f ((9 + (8 * u)) + 6)) k9).2.1)), (6, .int (nI k9))] [.int (if (0 : Int32) < ((f_Model_keeps_L44 f u s (1 : Int32) (0 : Int32) (f ((9 + (8 * u)) + 6)) k9).2.1) then (1 : Int32) else if ((f_Model_keeps_L44 f u s (1 : Int32) (0 : Int32) (f ((9 + (8 * u)) + 6)) k9).2.2) < (f ((9 + (8 * u)) + 6)) then (0 : Int32) else (1 : Int32))] h) (fun K => ?_) ?_
              · refine r_if_gt X 87 dX8_keeps_67 rfl (fun c15 => ?_) (fun c15 => ?_)
                · skip
                  refine r_iconst X (1 : Int32) dX8_keeps_87 (by decide) ?_
                  refine r_goto X 92 dX8_keeps_88 rfl ?_
                  refine SW.pick [0, 1, 2, 4, 6] [(0, .ref w), (1, .int (nI u)), (2, .int s), (4, .int ((f_Model_keeps_L44 f u s (1 : Int32) (0 : Int32) (f ((9 + (8 * u)) + 6)) k9).2.1)), (6, .int (nI k9))] rfl ?_
                  try simp only [if_pos c15] at K ⊢
                  exact K
                · skip
                  refine r_iload X 5 dX8_keeps_70 rfl ?_
                  refine r_aload_n X 0 dX8_keeps_72 rfl ?_
                  refine r_bipush X (9 : Int32) dX8_keeps_73 (by decide) ?_
                  refine r_bipush X (8 : Int32) dX8_keeps_75 (by decide) ?_
                  refine r_iload_n X 1 dX8_keeps_77 rfl ?_
                  refine r_imuln X (a := 8) (b := u) dX8_keeps_78 ?_
                  refine r_iaddn X (a := 9) (b := 8 * u) dX8_keeps_79 ?_
                  refine r_bipush X (6 : Int32) dX8_keeps_80 (by decide) ?_
                  refine r_iaddn X (a := 9 + (8 * u)) (b := 6) dX8_keeps_82 ?_
                  refine r_ialdn X (k0 := (9 + (8 * u)) + 6) dX8_keeps_83 (hv_w 0 _ rfl) (by omega) (by decide) ?_
                  refine m_join (P := SW Z 92 [(0, .ref w), (1, .int (nI u)), (2, .int s), (4, .int ((f_Model_keeps_L44 f u s (1 : Int32) (0 : Int32) (f ((9 + (8 * u)) + 6)) k9).2.1)), (6, .int (nI k9))] [.int (if ((f_Model_keeps_L44 f u s (1 : Int32) (0 : Int32) (f ((9 + (8 * u)) + 6)) k9).2.2) < (f ((9 + (8 * u)) + 6)) then (0 : Int32) else (1 : Int32))] h) (fun K => ?_) ?_
                  · refine r_icmp_lt X 91 dX8_keeps_84 rfl (fun c16 => ?_) (fun c16 => ?_)
                    · skip
                      refine r_iconst X (0 : Int32) dX8_keeps_91 (by decide) ?_
                      refine SW.pick [0, 1, 2, 4, 6] [(0, .ref w), (1, .int (nI u)), (2, .int s), (4, .int ((f_Model_keeps_L44 f u s (1 : Int32) (0 : Int32) (f ((9 + (8 * u)) + 6)) k9).2.1)), (6, .int (nI k9))] rfl ?_
                      try simp only [if_pos c16] at K ⊢
                      exact K
                    · skip
                      refine r_iconst X (1 : Int32) dX8_keeps_87 (by decide) ?_
                      refine r_goto X 92 dX8_keeps_88 rfl ?_
                      refine SW.pick [0, 1, 2, 4, 6] [(0, .ref w), (1, .int (nI u)), (2, .int s), (4, .int ((f_Model_keeps_L44 f u s (1 : Int32) (0 : Int32) (f ((9 + (8 * u)) + 6)) k9).2.1)), (6, .int (nI k9))] rfl ?_
                      try simp only [if_neg c16] at K ⊢
                      exact K
                  try simp only [if_neg c15] at K ⊢
                  exact K
              try simp only [if_neg c14] at K ⊢
              exact K
          refine r_istore_n [(0, .ref w), (1, .int (nI u)), (2, .int s), (3, .int (if ((f_Model_keeps_L44 f u s (1 : Int32) (0 : Int32) (f ((9 + (8 * u)) + 6)) k9).1) = (0 : Int32) then (0 : Int32) else if (0 : Int32) < ((f_Model_keeps_L44 f u s (1 : Int32) (0 : Int32) (f ((9 + (8 * u)) + 6)) k9).2.1) then (1 : Int32) else if ((f_Model_keeps_L44 f u s (1 : Int32) (0 : Int32) (f ((9 + (8 * u)) + 6)) k9).2.2) < (f ((9 + (8 * u)) + 6)) then (0 : Int32) else (1 : Int32))), (4, .int ((f_Model_keeps_L44 f u s (1 : Int32) (0 : Int32) (f ((9 + (8 * u)) + 6)) k9).2.1)), (6, .int (nI k9))] X dX8_keeps_92 rfl (by decide) rfl ?_
          refine r_iinc [(0, .ref w), (1, .int (nI u)), (2, .int s), (3, .int (if ((f_Model_keeps_L44 f u s (1 : Int32) (0 : Int32) (f ((9 + (8 * u)) + 6)) k9).1) = (0 : Int32) then (0 : Int32) else if (0 : Int32) < ((f_Model_keeps_L44 f u s (1 : Int32) (0 : Int32) (f ((9 + (8 * u)) + 6)) k9).2.1) then (1 : Int32) else if ((f_Model_keeps_L44 f u s (1 : Int32) (0 : Int32) (f ((9 + (8 * u)) + 6)) k9).2.2) < (f ((9 + (8 * u)) + 6)) then (0 : Int32) else (1 : Int32))), (4, .int (((f_Model_keeps_L44 f u s (1 : Int32) (0 : Int32) (f ((9 + (8 * u)) + 6)) k9).2.1) + (1 : Int32))), (6, .int (nI k9))] X (((f_Model_keeps_L44 f u s (1 : Int32) (0 : Int32) (f ((9 + (8 * u)) + 6)) k9).2.1) + (1 : Int32)) 4 dX8_keeps_93 rfl rfl (by decide) rfl ?_
          refine r_iconst X (0 : Int32) dX8_keeps_96 (by decide) ?_
          refine r_istore [(0, .ref w), (1, .int (nI u)), (2, .int s), (3, .int (if ((f_Model_keeps_L44 f u s (1 : Int32) (0 : Int32) (f ((9 + (8 * u)) + 6)) k9).1) = (0 : Int32) then (0 : Int32) else if (0 : Int32) < ((f_Model_keeps_L44 f u s (1 : Int32) (0 : Int32) (f ((9 + (8 * u)) + 6)) k9).2.1) then (1 : Int32) else if ((f_Model_keeps_L44 f u s (1 : Int32) (0 : Int32) (f ((9 + (8 * u)) + 6)) k9).2.2) < (f ((9 + (8 * u)) + 6)) then (0 : Int32) else (1 : Int32))), (4, .int (((f_Model_keeps_L44 f u s (1 : Int32) (0 : Int32) (f ((9 + (8 * u)) + 6)) k9).2.1) + (1 : Int32))), (5, .int (0 : Int32)), (6, .int (nI k9))] X dX8_keeps_97 (by decide) rfl ?_
          refine r_goto X 139 dX8_keeps_99 rfl ?_
          try simp only [if_neg c10] at K ⊢
          exact K
      refine r_iinc [(0, .ref w), (1, .int (nI u)), (2, .int s), (3, .int (if (f_Model_has s (nI k9)) = (0 : Int32) then if ((f_Model_keeps_L44 f u s (1 : Int32) (0 : Int32) (f ((9 + (8 * u)) + 6)) k9).1) = (0 : Int32) then (0 : Int32) else if ((f_Model_keeps_L44 f u s (1 : Int32) (0 : Int32) (f ((9 + (8 * u)) + 6)) k9).2.1) = (0 : Int32) then (1 : Int32) else if ((f_Model_keeps_L44 f u s (1 : Int32) (0 : Int32) (f ((9 + (8 * u)) + 6)) k9).2.1) < (f ((9 + (8 * u)) + 5)) then (0 : Int32) else (1 : Int32) else if ((f_Model_keeps_L44 f u s (1 : Int32) (0 : Int32) (f ((9 + (8 * u)) + 6)) k9).1) = (0 : Int32) then (0 : Int32) else if (0 : Int32) < ((f_Model_keeps_L44 f u s (1 : Int32) (0 : Int32) (f ((9 + (8 * u)) + 6)) k9).2.1) then (1 : Int32) else if ((f_Model_keeps_L44 f u s (1 : Int32) (0 : Int32) (f ((9 + (8 * u)) + 6)) k9).2.2) < (f ((9 + (8 * u)) + 6)) then (0 : Int32) else (1 : Int32))), (4, .int (if (f_Model_has s (nI k9)) = (0 : Int32) then (0 : Int32) else ((f_Model_keeps_L44 f u s (1 : Int32) (0 : Int32) (f ((9 + (8 * u)) + 6)) k9).2.1) + (1 : Int32))), (5, .int (if (f_Model_has s (nI k9)) = (0 : Int32) then ((f_Model_keeps_L44 f u s (1 : Int32) (0 : Int32) (f ((9 + (8 * u)) + 6)) k9).2.2) + (1 : Int32) else (0 : Int32))), (6, .int (nI (k9 + 1)))] X (nI (k9 + 1)) 6 dX8_keeps_139 rfl (nI_succ _).symm (by decide) rfl ?_
      refine r_goto X 44 dX8_keeps_142 rfl ?_
      exact ih
    obtain ⟨q1, eq1⟩ : ∃ q, q = f_Model_keeps_L44 f u s (1 : Int32) (0 : Int32) (f ((9 + (8 * u)) + 6)) Hh := ⟨_, rfl⟩
    rw [← eq1]
    rw [← eq1] at hf
    try dsimp only at hf
    refine r_iload X 6 dX8_keeps_44 rfl ?_
    refine r_aload_n X 0 dX8_keeps_46 rfl ?_
    refine r_iconst X (1 : Int32) dX8_keeps_47 (by decide) ?_
    refine r_ialdv X (v := nI Hh) (k0 := 1) dX8_keeps_48 (hv_w 0 _ rfl) (by omega) (by decide) h1 ?_
    refine r_icmp_ge X 145 dX8_keeps_49 rfl (fun _ => ?_) (fun z => absurd z (nI_nlt (a := Hh) (b := Hh) (by omega) (by omega)))
    refine r_iload_n X 3 dX8_keeps_145 rfl ?_
    try subst hf
    exact r_zreturn X Y dX8_keeps_146 (by first | (rw [eq1]; exact mkeeps_bool (Or.inr rfl) _) | (rw [eq2]; exact mkeeps_bool (Or.inr rfl) _)) rfl rfl
  · rw [if_pos c1] at hf
    refine r_iload_n X 2 dX8_keeps_9 rfl ?_
    refine r_iconst X (1 : Int32) dX8_keeps_10 (by decide) ?_
    refine r_aload_n X 0 dX8_keeps_11 rfl ?_
    refine r_iconst X (1 : Int32) dX8_keeps_12 (by decide) ?_
    refine r_ialdv X (v := nI Hh) (k0 := 1) dX8_keeps_13 (hv_w 0 _ rfl) (by omega) (by decide) h1 ?_
    refine r_ishl X dX8_keeps_14 ?_
    refine r_iconst X (1 : Int32) dX8_keeps_15 (by decide) ?_
    refine r_isub X dX8_keeps_16 ?_
    refine r_icmp_eq X 22 dX8_keeps_17 rfl (fun c17 => ?_) (fun c17 => ?_)
    · rw [if_pos c17] at hf
      refine r_iconst X (1 : Int32) dX8_keeps_22 (by decide) ?_
      refine r_istore_n [(0, .ref w), (1, .int (nI u)), (2, .int s), (3, .int (1 : Int32))] X dX8_keeps_23 rfl (by decide) rfl ?_
      refine r_iconst X (0 : Int32) dX8_keeps_24 (by decide) ?_
      refine r_istore [(0, .ref w), (1, .int (nI u)), (2, .int s), (3, .int (1 : Int32)), (4, .int (0 : Int32))] X dX8_keeps_25 (by decide) rfl ?_
      refine r_aload_n X 0 dX8_keeps_27 rfl ?_
      refine r_bipush X (9 : Int32) dX8_keeps_28 (by decide) ?_
      refine r_bipush X (8 : Int32) dX8_keeps_30 (by decide) ?_
      refine r_iload_n X 1 dX8_keeps_32 rfl ?_
      refine r_imuln X (a := 8) (b := u) dX8_keeps_33 ?_
      refine r_iaddn X (a := 9) (b := 8 * u) dX8_keeps_34 ?_
      refine r_bipush X (6 : Int32) dX8_keeps_35 (by decide) ?_
      refine r_iaddn X (a := 9 + (8 * u)) (b := 6) dX8_keeps_37 ?_
      refine r_ialdn X (k0 := (9 + (8 * u)) + 6) dX8_keeps_38 (hv_w 0 _ rfl) (by omega) (by decide) ?_
      refine r_istore [(0, .ref w), (1, .int (nI u)), (2, .int s), (3, .int (1 : Int32)), (4, .int (0 : Int32)), (5, .int (f ((9 + (8 * u)) + 6)))] X dX8_keeps_39 (by decide) rfl ?_
      refine r_iconst X (0 : Int32) dX8_keeps_41 (by decide) ?_
      refine r_istore [(0, .ref w), (1, .int (nI u)), (2, .int s), (3, .int (1 : Int32)), (4, .int (0 : Int32)), (5, .int (f ((9 + (8 * u)) + 6))), (6, .int (0 : Int32))] X dX8_keeps_42 (by decide) rfl ?_
      refine loop_up (P := fun k18 => SW Z 44 [(0, .ref w), (1, .int (nI u)), (2, .int s), (3, .int ((f_Model_keeps_L44 f u s (1 : Int32) (0 : Int32) (f ((9 + (8 * u)) + 6)) k18).1)), (4, .int ((f_Model_keeps_L44 f u s (1 : Int32) (0 : Int32) (f ((9 + (8 * u)) + 6)) k18).2.1)), (5, .int ((f_Model_keeps_L44 f u s (1 : Int32) (0 : Int32) (f ((9 + (8 * u)) + 6)) k18).2.2)), (6, .int (nI k18))] [] h) Hh ?_ ?_ 0 (Nat.zero_le _)
      rotate_left
      · intro k18 hk18 ih
        refine r_iload X 6 dX8_keeps_44 rfl ?_
        refine r_aload_n X 0 dX8_keeps_46 rfl ?_
        refine r_iconst X (1 : Int32) dX8_keeps_47 (by decide) ?_
        refine r_ialdv X (v := nI Hh) (k0 := 1) dX8_keeps_48 (hv_w 0 _ rfl) (by omega) (by decide) h1 ?_
        refine r_icmp_ge X 145 dX8_keeps_49 rfl (fun z => absurd (nI_lt (a := k18) (b := Hh) (by omega) (by omega)) z) (fun _ => ?_)
        refine r_iload_n X 2 dX8_keeps_52 rfl ?_
        refine r_iload X 6 dX8_keeps_53 rfl ?_
        refine cl_X8_165 X (by decide) dX8_keeps_55 (Nat.le_of_ble_eq_true rfl) (c_Model_has  ) ?_
        refine m_join (P := SW Z 139 [(0, .ref w), (1, .int (nI u)), (2, .int s), (3, .int (if (f_Model_has s (nI k18)) = (0 : Int32) then if ((f_Model_keeps_L44 f u s (1 : Int32) (0 : Int32) (f ((9 + (8 * u)) + 6)) k18).1) = (0 : Int32) then (0 : Int32) else if ((f_Model_keeps_L44 f u s (1 : Int32) (0 : Int32) (f ((9 + (8 * u)) + 6)) k18).2.1) = (0 : Int32) then (1 : Int32) else if ((f_Model_keeps_L44 f u s (1 : Int32) (0 : Int32) (f ((9 + (8 * u)) + 6)) k18).2.1) < (f ((9 + (8 * u)) + 5)) then (0 : Int32) else (1 : Int32) else if ((f_Model_keeps_L44 f u s (1 : Int32) (0 : Int32) (f ((9 + (8 * u)) + 6)) k18).1) = (0 : Int32) then (0 : Int32) else if (0 : Int32) < ((f_Model_keeps_L44 f u s (1 : Int32) (0 : Int32) (f ((9 + (8 * u)) + 6)) k18).2.1) then (1 : Int32) else if ((f_Model_keeps_L44 f u s (1 : Int32) (0 : Int32) (f ((9 + (8 * u)) + 6)) k18).2.2) < (f ((9 + (8 * u)) + 6)) then (0 : Int32) else (1 : Int32))), (4, .int (if (f_Model_has s (nI k18)) = (0 : Int32) then (0 : Int32) else ((f_Model_keeps_L44 f u s (1 : Int32) (0 : Int32) (f ((9 + (8 * u)) + 6)) k18).2.1) + (1 : Int32))), (5, .int (if (f_Model_has s (nI k18)) = (0 : Int32) then ((f_Model_keeps_L44 f u s (1 : Int32) (0 : Int32) (f ((9 + (8 * u)) + 6)) k18).2.2) + (1 : Int32) else (0 : Int32))), (6, .int (nI k18))] [] h) (fun K => ?_) ?_
        · refine r_if_eq X 102 dX8_keeps_58 rfl (fun c19 => ?_) (fun c19 => ?_)
          · skip
            refine r_iload_n X 3 dX8_keeps_102 rfl ?_
            refine m_join (P := SW Z 132 [(0, .ref w), (1, .int (nI u)), (2, .int s), (5, .int ((f_Model_keeps_L44 f u s (1 : Int32) (0 : Int32) (f ((9 + (8 * u)) + 6)) k18).2.2)), (6, .int (nI k18))] [.int (if ((f_Model_keeps_L44 f u s (1 : Int32) (0 : Int32) (f ((9 + (8 * u)) + 6)) k18).1) = (0 : Int32) then (0 : Int32) else if ((f_Model_keeps_L44 f u s (1 : Int32) (0 : Int32) (f ((9 + (8 * u)) + 6)) k18).2.1) = (0 : Int32) then (1 : Int32) else if ((f_Model_keeps_L44 f u s (1 : Int32) (0 : Int32) (f ((9 + (8 * u)) + 6)) k18).2.1) < (f ((9 + (8 * u)) + 5)) then (0 : Int32) else (1 : Int32))] h) (fun K => ?_) ?_
            · refine r_if_eq X 131 dX8_keeps_103 rfl (fun c20 => ?_) (fun c20 => ?_)
              · skip
                refine r_iconst X (0 : Int32) dX8_keeps_131 (by decide) ?_
                refine SW.pick [0, 1, 2, 5, 6] [(0, .ref w), (1, .int (nI u)), (2, .int s), (5, .int ((f_Model_keeps_L44 f u s (1 : Int32) (0 : Int32) (f ((9 + (8 * u)) + 6)) k18).2.2)), (6, .int (nI k18))] rfl ?_
                try simp only [if_pos c20] at K ⊢
                exact K
              · skip
                refine r_iload X 4 dX8_keeps_106 rfl ?_
                refine m_join (P := SW Z 132 [(0, .ref w), (1, .int (nI u)), (2, .int s), (5, .int ((f_Model_keeps_L44 f u s (1 : Int32) (0 : Int32) (f ((9 + (8 * u)) + 6)) k18).2.2)), (6, .int (nI k18))] [.int (if ((f_Model_keeps_L44 f u s (1 : Int32) (0 : Int32) (f ((9 + (8 * u)) + 6)) k18).2.1) = (0 : Int32) then (1 : Int32) else if ((f_Model_keeps_L44 f u s (1 : Int32) (0 : Int32) (f ((9 + (8 * u)) + 6)) k18).2.1) < (f ((9 + (8 * u)) + 5)) then (0 : Int32) else (1 : Int32))] h) (fun K => ?_) ?_
                · refine r_if_eq X 127 dX8_keeps_108 rfl (fun c21 => ?_) (fun c21 => ?_)
                  · skip
                    refine r_iconst X (1 : Int32) dX8_keeps_127 (by decide) ?_
                    refine r_goto X 132 dX8_keeps_128 rfl ?_
                    refine SW.pick [0, 1, 2, 5, 6] [(0, .ref w), (1, .int (nI u)), (2, .int s), (5, .int ((f_Model_keeps_L44 f u s (1 : Int32) (0 : Int32) (f ((9 + (8 * u)) + 6)) k18).2.2)), (6, .int (nI k18))] rfl ?_
                    try simp only [if_pos c21] at K ⊢
                    exact K
                  · skip
                    refine r_iload X 4 dX8_keeps_111 rfl ?_
                    refine r_aload_n X 0 dX8_keeps_113 rfl ?_
                    refine r_bipush X (9 : Int32) dX8_keeps_114 (by decide) ?_
                    refine r_bipush X (8 : Int32) dX8_keeps_116 (by decide) ?_
                    refine r_iload_n X 1 dX8_keeps_118 rfl ?_
                    refine r_imuln X (a := 8) (b := u) dX8_keeps_119 ?_
                    refine r_iaddn X (a := 9) (b := 8 * u) dX8_keeps_120 ?_
                    refine r_iconst X (5 : Int32) dX8_keeps_121 (by decide) ?_
                    refine r_iaddn X (a := 9 + (8 * u)) (b := 5) dX8_keeps_122 ?_
                    refine r_ialdn X (k0 := (9 + (8 * u)) + 5) dX8_keeps_123 (hv_w 0 _ rfl) (by omega) (by decide) ?_
                    refine m_join (P := SW Z 132 [(0, .ref w), (1, .int (nI u)), (2, .int s), (5, .int ((f_Model_keeps_L44 f u s (1 : Int32) (0 : Int32) (f ((9 + (8 * u)) + 6)) k18).2.2)), (6, .int (nI k18))] [.int (if ((f_Model_keeps_L44 f u s (1 : Int32) (0 : Int32) (f ((9 + (8 * u)) + 6)) k18).2.1) < (f ((9 + (8 * u)) + 5)) then (0 : Int32) else (1 : Int32))] h) (fun K => ?_) ?_
                    · refine r_icmp_lt X 131 dX8_keeps_124 rfl (fun c22 => ?_) (fun c22 => ?_)
                      · skip
                        refine r_iconst X (0 : Int32) dX8_keeps_131 (by decide) ?_
                        refine SW.pick [0, 1, 2, 5, 6] [(0, .ref w), (1, .int (nI u)), (2, .int s), (5, .int ((f_Model_keeps_L44 f u s (1 : Int32) (0 : Int32) (f ((9 + (8 * u)) + 6)) k18).2.2)), (6, .int (nI k18))] rfl ?_
                        try simp only [if_pos c22] at K ⊢
                        exact K
                      · skip
                        refine r_iconst X (1 : Int32) dX8_keeps_127 (by decide) ?_
                        refine r_goto X 132 dX8_keeps_128 rfl ?_
                        refine SW.pick [0, 1, 2, 5, 6] [(0, .ref w), (1, .int (nI u)), (2, .int s), (5, .int ((f_Model_keeps_L44 f u s (1 : Int32) (0 : Int32) (f ((9 + (8 * u)) + 6)) k18).2.2)), (6, .int (nI k18))] rfl ?_
                        try simp only [if_neg c22] at K ⊢
                        exact K
                    try simp only [if_neg c21] at K ⊢
                    exact K
                try simp only [if_neg c20] at K ⊢
                exact K
            refine r_istore_n [(0, .ref w), (1, .int (nI u)), (2, .int s), (3, .int (if ((f_Model_keeps_L44 f u s (1 : Int32) (0 : Int32) (f ((9 + (8 * u)) + 6)) k18).1) = (0 : Int32) then (0 : Int32) else if ((f_Model_keeps_L44 f u s (1 : Int32) (0 : Int32) (f ((9 + (8 * u)) + 6)) k18).2.1) = (0 : Int32) then (1 : Int32) else if ((f_Model_keeps_L44 f u s (1 : Int32) (0 : Int32) (f ((9 + (8 * u)) + 6)) k18).2.1) < (f ((9 + (8 * u)) + 5)) then (0 : Int32) else (1 : Int32))), (5, .int ((f_Model_keeps_L44 f u s (1 : Int32) (0 : Int32) (f ((9 + (8 * u)) + 6)) k18).2.2)), (6, .int (nI k18))] X dX8_keeps_132 rfl (by decide) rfl ?_
            refine r_iconst X (0 : Int32) dX8_keeps_133 (by decide) ?_
            refine r_istore [(0, .ref w), (1, .int (nI u)), (2, .int s), (3, .int (if ((f_Model_keeps_L44 f u s (1 : Int32) (0 : Int32) (f ((9 + (8 * u)) + 6)) k18).1) = (0 : Int32) then (0 : Int32) else if ((f_Model_keeps_L44 f u s (1 : Int32) (0 : Int32) (f ((9 + (8 * u)) + 6)) k18).2.1) = (0 : Int32) then (1 : Int32) else if ((f_Model_keeps_L44 f u s (1 : Int32) (0 : Int32) (f ((9 + (8 * u)) + 6)) k18).2.1) < (f ((9 + (8 * u)) + 5)) then (0 : Int32) else (1 : Int32))), (4, .int (0 : Int32)), (5, .int ((f_Model_keeps_L44 f u s (1 : Int32) (0 : Int32) (f ((9 + (8 * u)) + 6)) k18).2.2)), (6, .int (nI k18))] X dX8_keeps_134 (by decide) rfl ?_
            refine r_iinc [(0, .ref w), (1, .int (nI u)), (2, .int s), (3, .int (if ((f_Model_keeps_L44 f u s (1 : Int32) (0 : Int32) (f ((9 + (8 * u)) + 6)) k18).1) = (0 : Int32) then (0 : Int32) else if ((f_Model_keeps_L44 f u s (1 : Int32) (0 : Int32) (f ((9 + (8 * u)) + 6)) k18).2.1) = (0 : Int32) then (1 : Int32) else if ((f_Model_keeps_L44 f u s (1 : Int32) (0 : Int32) (f ((9 + (8 * u)) + 6)) k18).2.1) < (f ((9 + (8 * u)) + 5)) then (0 : Int32) else (1 : Int32))), (4, .int (0 : Int32)), (5, .int (((f_Model_keeps_L44 f u s (1 : Int32) (0 : Int32) (f ((9 + (8 * u)) + 6)) k18).2.2) + (1 : Int32))), (6, .int (nI k18))] X (((f_Model_keeps_L44 f u s (1 : Int32) (0 : Int32) (f ((9 + (8 * u)) + 6)) k18).2.2) + (1 : Int32)) 5 dX8_keeps_136 rfl rfl (by decide) rfl ?_
            try simp only [if_pos c19] at K ⊢
            exact K
          · skip
            refine r_iload_n X 3 dX8_keeps_61 rfl ?_
            refine m_join (P := SW Z 92 [(0, .ref w), (1, .int (nI u)), (2, .int s), (4, .int ((f_Model_keeps_L44 f u s (1 : Int32) (0 : Int32) (f ((9 + (8 * u)) + 6)) k18).2.1)), (6, .int (nI k18))] [.int (if ((f_Model_keeps_L44 f u s (1 : Int32) (0 : Int32) (f ((9 + (8 * u)) + 6)) k18).1) = (0 : Int32) then (0 : Int32) else if (0 : Int32) < ((f_Model_keeps_L44 f u s (1 : Int32) (0 : Int32) (f ((9 + (8 * u)) + 6)) k18).2.1) then (1 : Int32) else if ((f_Model_keeps_L44 f u s (1 : Int32) (0 : Int32) (f ((9 + (8 * u)) + 6)) k18).2.2) < (f ((9 + (8 * u)) + 6)) then (0 : Int32) else (1 : Int32))] h) (fun K => ?_) ?_
            · refine r_if_eq X 91 dX8_keeps_62 rfl (fun c23 => ?_) (fun c23 => ?_)
              · skip
                refine r_iconst X (0 : Int32) dX8_keeps_91 (by decide) ?_
                refine SW.pick [0, 1, 2, 4, 6] [(0, .ref w), (1, .int (nI u)), (2, .int s), (4, .int ((f_Model_keeps_L44 f u s (1 : Int32) (0 : Int32) (f ((9 + (8 * u)) + 6)) k18).2.1)), (6, .int (nI k18))] rfl ?_
                try simp only [if_pos c23] at K ⊢
                exact K
              · skip
                refine r_iload X 4 dX8_keeps_65 rfl ?_
                refine m_join (P := SW Z 92 [(0, .ref w), (1, .int (nI u)), (2, .int s), (4, .int ((f_Model_keeps_L44 f u s (1 : Int32) (0 : Int32) (f ((9 + (8 * u)) + 6)) k18).2.1)), (6, .int (nI k18))] [.int (if (0 : Int32) < ((f_Model_keeps_L44 f u s (1 : Int32) (0 : Int32) (f ((9 + (8 * u)) + 6)) k18).2.1) then (1 : Int32) else if ((f_Model_keeps_L44 f u s (1 : Int32) (0 : Int32) (f ((9 + (8 * u)) + 6)) k18).2.2) < (f ((9 + (8 * u)) + 6)) then (0 : Int32) else (1 : Int32))] h) (fun K => ?_) ?_
                · refine r_if_gt X 87 dX8_keeps_67 rfl (fun c24 => ?_) (fun c24 => ?_)
                  · skip
                    refine r_iconst X (1 : Int32) dX8_keeps_87 (by decide) ?_
                    refine r_goto X 92 dX8_keeps_88 rfl ?_
                    refine SW.pick [0, 1, 2, 4, 6] [(0, .ref w), (1, .int (nI u)), (2, .int s), (4, .int ((f_Model_keeps_L44 f u s (1 : Int32) (0 : Int32) (f ((9 + (8 * u)) + 6)) k18).2.1)), (6, .int (nI k18))] rfl ?_
                    try simp only [if_pos c24] at K ⊢
                    exact K
                  · skip
                    refine r_iload X 5 dX8_keeps_70 rfl ?_
                    refine r_aload_n X 0 dX8_keeps_72 rfl ?_
                    refine r_bipush X (9 : Int32) dX8_keeps_73 (by decide) ?_
                    refine r_bipush X (8 : Int32) dX8_keeps_75 (by decide) ?_
                    refine r_iload_n X 1 dX8_keeps_77 rfl ?_
                    refine r_imuln X (a := 8) (b := u) dX8_keeps_78 ?_
                    refine r_iaddn X (a := 9) (b := 8 * u) dX8_keeps_79 ?_
                    refine r_bipush X (6 : Int32) dX8_keeps_80 (by decide) ?_
                    refine r_iaddn X (a := 9 + (8 * u)) (b := 6) dX8_keeps_82 ?_
                    refine r_ialdn X (k0 := (9 + (8 * u)) + 6) dX8_keeps_83 (hv_w 0 _ rfl) (by omega) (by decide) ?_
                    refine m_join (P := SW Z 92 [(0, .ref w), (1, .int (nI u)), (2, .int s), (4, .int ((f_Model_keeps_L44 f u s (1 : Int32) (0 : Int32) (f ((9 + (8 * u)) + 6)) k18).2.1)), (6, .int (nI k18))] [.int (if ((f_Model_keeps_L44 f u s (1 : Int32) (0 : Int32) (f ((9 + (8 * u)) + 6)) k18).2.2) < (f ((9 + (8 * u)) + 6)) then (0 : Int32) else (1 : Int32))] h) (fun K => ?_) ?_
                    · refine r_icmp_lt X 91 dX8_keeps_84 rfl (fun c25 => ?_) (fun c25 => ?_)
                      · skip
                        refine r_iconst X (0 : Int32) dX8_keeps_91 (by decide) ?_
                        refine SW.pick [0, 1, 2, 4, 6] [(0, .ref w), (1, .int (nI u)), (2, .int s), (4, .int ((f_Model_keeps_L44 f u s (1 : Int32) (0 : Int32) (f ((9 + (8 * u)) + 6)) k18).2.1)), (6, .int (nI k18))] rfl ?_
                        try simp only [if_pos c25] at K ⊢
                        exact K
                      · skip
                        refine r_iconst X (1 : Int32) dX8_keeps_87 (by decide) ?_
                        refine r_goto X 92 dX8_keeps_88 rfl ?_
                        refine SW.pick [0, 1, 2, 4, 6] [(0, .ref w), (1, .int (nI u)), (2, .int s), (4, .int ((f_Model_keeps_L44 f u s (1 : Int32) (0 : Int32) (f ((9 + (8 * u)) + 6)) k18).2.1)), (6, .int (nI k18))] rfl ?_
                        try simp only [if_neg c25] at K ⊢
                        exact K
                    try simp only [if_neg c24] at K ⊢
                    exact K
                try simp only [if_neg c23] at K ⊢
                exact K
            refine r_istore_n [(0, .ref w), (1, .int (nI u)), (2, .int s), (3, .int (if ((f_Model_keeps_L44 f u s (1 : Int32) (0 : Int32) (f ((9 + (8 * u)) + 6)) k18).1) = (0 : Int32) then (0 : Int32) else if (0 : Int32) < ((f_Model_keeps_L44 f u s (1 : Int32) (0 : Int32) (f ((9 + (8 * u)) + 6)) k18).2.1) then (1 : Int32) else if ((f_Model_keeps_L44 f u s (1 : Int32) (0 : Int32) (f ((9 + (8 * u)) + 6)) k18).2.2) < (f ((9 + (8 * u)) + 6)) then (0 : Int32) else (1 : Int32))), (4, .int ((f_Model_keeps_L44 f u s (1 : Int32) (0 : Int32) (f ((9 + (8 * u)) + 6)) k18).2.1)), (6, .int (nI k18))] X dX8_keeps_92 rfl (by decide) rfl ?_
            refine r_iinc [(0, .ref w), (1, .int (nI u)), (2, .int s), (3, .int (if ((f_Model_keeps_L44 f u s (1 : Int32) (0 : Int32) (f ((9 + (8 * u)) + 6)) k18).1) = (0 : Int32) then (0 : Int32) else if (0 : Int32) < ((f_Model_keeps_L44 f u s (1 : Int32) (0 : Int32) (f ((9 + (8 * u)) + 6)) k18).2.1) then (1 : Int32) else if ((f_Model_keeps_L44 f u s (1 : Int32) (0 : Int32) (f ((9 + (8 * u)) + 6)) k18).2.2) < (f ((9 + (8 * u)) + 6)) then (0 : Int32) else (1 : Int32))), (4, .int (((f_Model_keeps_L44 f u s (1 : Int32) (0 : Int32) (f ((9 + (8 * u)) + 6)) k18).2.1) + (1 : Int32))), (6, .int (nI k18))] X (((f_Model_keeps_L44 f u s (1 : Int32) (0 : Int32) (f ((9 + (8 * u)) + 6)) k18).2.1) + (1 : Int32)) 4 dX8_keeps_93 rfl rfl (by decide) rfl ?_
            refine r_iconst X (0 : Int32) dX8_keeps_96 (by decide) ?_
            refine r_istore [(0, .ref w), (1, .int (nI u)), (2, .int s), (3, .int (if ((f_Model_keeps_L44 f u s (1 : Int32) (0 : Int32) (f ((9 + (8 * u)) + 6)) k18).1) = (0 : Int32) then (0 : Int32) else if (0 : Int32) < ((f_Model_keeps_L44 f u s (1 : Int32) (0 : Int32) (f ((9 + (8 * u)) + 6)) k18).2.1) then (1 : Int32) else if ((f_Model_keeps_L44 f u s (1 : Int32) (0 : Int32) (f ((9 + (8 * u)) + 6)) k18).2.2) < (f ((9 + (8 * u)) + 6)) then (0 : Int32) else (1 : Int32))), (4, .int (((f_Model_keeps_L44 f u s (1 : Int32) (0 : Int32) (f ((9 + (8 * u)) + 6)) k18).2.1) + (1 : Int32))), (5, .int (0 : Int32)), (6, .int (nI k18))] X dX8_keeps_97 (by decide) rfl ?_
            refine r_goto X 139 dX8_keeps_99 rfl ?_
            try simp only [if_neg c19] at K ⊢
            exact K
        refine r_iinc [(0, .ref w), (1, .int (nI u)), (2, .int s), (3, .int (if (f_Model_has s (nI k18)) = (0 : Int32) then if ((f_Model_keeps_L44 f u s (1 : Int32) (0 : Int32) (f ((9 + (8 * u)) + 6)) k18).1) = (0 : Int32) then (0 : Int32) else if ((f_Model_keeps_L44 f u s (1 : Int32) (0 : Int32) (f ((9 + (8 * u)) + 6)) k18).2.1) = (0 : Int32) then (1 : Int32) else if ((f_Model_keeps_L44 f u s (1 : Int32) (0 : Int32) (f ((9 + (8 * u)) + 6)) k18).2.1) < (f ((9 + (8 * u)) + 5)) then (0 : Int32) else (1 : Int32) else if ((f_Model_keeps_L44 f u s (1 : Int32) (0 : Int32) (f ((9 + (8 * u)) + 6)) k18).1) = (0 : Int32) then (0 : Int32) else if (0 : Int32) < ((f_Model_keeps_L44 f u s (1 : Int32) (0 : Int32) (f ((9 + (8 * u)) + 6)) k18).2.1) then (1 : Int32) else if ((f_Model_keeps_L44 f u s (1 : Int32) (0 : Int32) (f ((9 + (8 * u)) + 6)) k18).2.2) < (f ((9 + (8 * u)) + 6)) then (0 : Int32) else (1 : Int32))), (4, .int (if (f_Model_has s (nI k18)) = (0 : Int32) then (0 : Int32) else ((f_Model_keeps_L44 f u s (1 : Int32) (0 : Int32) (f ((9 + (8 * u)) + 6)) k18).2.1) + (1 : Int32))), (5, .int (if (f_Model_has s (nI k18)) = (0 : Int32) then ((f_Model_keeps_L44 f u s (1 : Int32) (0 : Int32) (f ((9 + (8 * u)) + 6)) k18).2.2) + (1 : Int32) else (0 : Int32))), (6, .int (nI (k18 + 1)))] X (nI (k18 + 1)) 6 dX8_keeps_139 rfl (nI_succ _).symm (by decide) rfl ?_
        refine r_goto X 44 dX8_keeps_142 rfl ?_
        exact ih
      obtain ⟨q2, eq2⟩ : ∃ q, q = f_Model_keeps_L44 f u s (1 : Int32) (0 : Int32) (f ((9 + (8 * u)) + 6)) Hh := ⟨_, rfl⟩
      rw [← eq2]
      rw [← eq2] at hf
      try dsimp only at hf
      refine r_iload X 6 dX8_keeps_44 rfl ?_
      refine r_aload_n X 0 dX8_keeps_46 rfl ?_
      refine r_iconst X (1 : Int32) dX8_keeps_47 (by decide) ?_
      refine r_ialdv X (v := nI Hh) (k0 := 1) dX8_keeps_48 (hv_w 0 _ rfl) (by omega) (by decide) h1 ?_
      refine r_icmp_ge X 145 dX8_keeps_49 rfl (fun _ => ?_) (fun z => absurd z (nI_nlt (a := Hh) (b := Hh) (by omega) (by omega)))
      refine r_iload_n X 3 dX8_keeps_145 rfl ?_
      try subst hf
      exact r_zreturn X Y dX8_keeps_146 (by first | (rw [eq1]; exact mkeeps_bool (Or.inr rfl) _) | (rw [eq2]; exact mkeeps_bool (Or.inr rfl) _)) rfl rfl
    · rw [if_neg c17] at hf
      refine r_iconst X (0 : Int32) dX8_keeps_20 (by decide) ?_
      try subst hf
      exact r_zreturn X Y dX8_keeps_21 (by (repeat' split) <;> first | exact Or.inl rfl | exact Or.inr rfl) rfl rfl

def f_Model_sumOf_L6s (f : Nat → Int32) (x1 : Int32) (x2 : Int32) (x3 : Int32) (k6 : Nat) (x4 : Int32) : Int32 := x4 + (if (f_Model_has x1 (nI k6)) = (0 : Int32) then (0 : Int32) else if x3 = (0 : Int32) then (f_Model_floor f k6) else (f_Model_roof f k6 (f_Model_has x2 (nI k6))))
def f_Model_sumOf_L6 (f : Nat → Int32) (x1 : Int32) (x2 : Int32) (x3 : Int32) (x4 : Int32) : Nat → Int32
  | 0 => x4
  | k6 + 1 => f_Model_sumOf_L6s f x1 x2 x3 k6 (f_Model_sumOf_L6 f x1 x2 x3 x4 k6)
def f_Model_sumOf (f : Nat → Int32) (on : Int32) (st : Int32) (wh : Int32) (U : Nat) : Int32 := (f_Model_sumOf_L6 f on st wh (0 : Int32) U)
set_option maxRecDepth 20000 in
set_option maxHeartbeats 4000000 in
theorem c_Model_sumOf {G : mG} {h : mHp} {w : Nat} {f : Nat → Int32} {on : Int32} {st : Int32} {wh : Int32} {U : Nat} (hv_w : isV h w (ar41 w f))  (h0 : f 0 = nI U) (hU : U ≤ 4) : Ret G 2 mX8_sumOf [.ref w, .int on, .int st, .int wh] h (some (.int (f_Model_sumOf f on st wh U))) h := by
  generalize hf : f_Model_sumOf f on st wh U = R
  unfold f_Model_sumOf at hf
  refine Ret.of [(0, .ref w), (1, .int on), (2, .int st), (3, .int wh)] (by decide) (Nat.le_of_ble_eq_true rfl) rfl ?_
  rintro Z rfl X Y
  refine r_iconst X (0 : Int32) dX8_sumOf_0 (by decide) ?_
  refine r_istore [(0, .ref w), (1, .int on), (2, .int st), (3, .int wh), (4, .int (0 : Int32))] X dX8_sumOf_1 (by decide) rfl ?_
  refine r_iconst X (0 : Int32) dX8_sumOf_3 (by decide) ?_
  refine r_istore [(0, .ref w), (1, .int on), (2, .int st), (3, .int wh), (4, .int (0 : Int32)), (5, .int (0 : Int32))] X dX8_sumOf_4 (by decide) rfl ?_
  refine loop_up (P := fun k3 => SW Z 6 [(0, .ref w), (1, .int on), (2, .int st), (3, .int wh), (4, .int (f_Model_sumOf_L6 f on st wh (0 : Int32) k3)), (5, .int (nI k3))] [] h) U ?_ ?_ 0 (Nat.zero_le _)
  rotate_left
  · intro k3 hk3 ih
    refine r_iload X 5 dX8_sumOf_6 rfl ?_
    refine r_aload_n X 0 dX8_sumOf_8 rfl ?_
    refine r_iconst X (0 : Int32) dX8_sumOf_9 (by decide) ?_
    refine r_ialdv X (v := nI U) (k0 := 0) dX8_sumOf_10 (hv_w 0 _ rfl) (by omega) (by decide) h0 ?_
    refine r_icmp_ge X 63 dX8_sumOf_11 rfl (fun z => absurd (nI_lt (a := k3) (b := U) (by omega) (by omega)) z) (fun _ => ?_)
    refine r_iload X 4 dX8_sumOf_14 rfl ?_
    refine r_iload_n X 1 dX8_sumOf_16 rfl ?_
    refine r_iload X 5 dX8_sumOf_17 rfl ?_
    refine cl_X8_165 X (by decide) dX8_sumOf_19 (Nat.le_of_ble_eq_true rfl) (c_Model_has  ) ?_
    refine m_join (P := SW Z 54 [(0, .ref w), (1, .int on), (2, .int st), (3, .int wh), (5, .int (nI k3))] [.int (if (f_Model_has on (nI k3)) = (0 : Int32) then (0 : Int32) else if wh = (0 : Int32) then (f_Model_floor f k3) else (f_Model_roof f k3 (f_Model_has st (nI k3)))), .int (f_Model_sumOf_L6 f on st wh (0 : Int32) k3)] h) (fun K => ?_) ?_
    · refine r_if_ne X 29 dX8_sumOf_22 rfl (fun c4 => ?_) (fun c4 => ?_)
      · skip
        refine r_iload_n X 3 dX8_sumOf_29 rfl ?_
        refine m_join (P := SW Z 54 [(0, .ref w), (1, .int on), (2, .int st), (3, .int wh), (5, .int (nI k3))] [.int (if wh = (0 : Int32) then (f_Model_floor f k3) else (f_Model_roof f k3 (f_Model_has st (nI k3)))), .int (f_Model_sumOf_L6 f on st wh (0 : Int32) k3)] h) (fun K => ?_) ?_
        · refine r_if_ne X 42 dX8_sumOf_30 rfl (fun c5 => ?_) (fun c5 => ?_)
          · skip
            refine r_aload_n X 0 dX8_sumOf_42 rfl ?_
            refine r_iload X 5 dX8_sumOf_43 rfl ?_
            refine r_iload_n X 2 dX8_sumOf_45 rfl ?_
            refine r_iload X 5 dX8_sumOf_46 rfl ?_
            refine cl_X8_165 X (by decide) dX8_sumOf_48 (Nat.le_of_ble_eq_true rfl) (c_Model_has  ) ?_
            refine cl_X8_175 X (by decide) dX8_sumOf_51 (Nat.le_of_ble_eq_true rfl) (c_Model_roof (isV1 (hv_w 0 _ rfl)) (by first | assumption | omega)) ?_
            refine SW.pick [0, 1, 2, 3, 5] [(0, .ref w), (1, .int on), (2, .int st), (3, .int wh), (5, .int (nI k3))] rfl ?_
            try simp only [if_neg c5] at K ⊢
            exact K
          · skip
            refine r_aload_n X 0 dX8_sumOf_33 rfl ?_
            refine r_iload X 5 dX8_sumOf_34 rfl ?_
            refine cl_X8_172 X (by decide) dX8_sumOf_36 (Nat.le_of_ble_eq_true rfl) (c_Model_floor (isV1 (hv_w 0 _ rfl)) (by first | assumption | omega)) ?_
            refine r_goto X 54 dX8_sumOf_39 rfl ?_
            refine SW.pick [0, 1, 2, 3, 5] [(0, .ref w), (1, .int on), (2, .int st), (3, .int wh), (5, .int (nI k3))] rfl ?_
            try simp only [if_pos c5] at K ⊢
            exact K
        try simp only [if_neg c4] at K ⊢
        exact K
      · skip
        refine r_iconst X (0 : Int32) dX8_sumOf_25 (by decide) ?_
        refine r_goto X 54 dX8_sumOf_26 rfl ?_
        refine SW.pick [0, 1, 2, 3, 5] [(0, .ref w), (1, .int on), (2, .int st), (3, .int wh), (5, .int (nI k3))] rfl ?_
        try simp only [if_pos c4] at K ⊢
        exact K
    refine r_iadd X dX8_sumOf_54 ?_
    refine r_istore [(0, .ref w), (1, .int on), (2, .int st), (3, .int wh), (4, .int ((f_Model_sumOf_L6 f on st wh (0 : Int32) k3) + (if (f_Model_has on (nI k3)) = (0 : Int32) then (0 : Int32) else if wh = (0 : Int32) then (f_Model_floor f k3) else (f_Model_roof f k3 (f_Model_has st (nI k3)))))), (5, .int (nI k3))] X dX8_sumOf_55 (by decide) rfl ?_
    refine r_iinc [(0, .ref w), (1, .int on), (2, .int st), (3, .int wh), (4, .int ((f_Model_sumOf_L6 f on st wh (0 : Int32) k3) + (if (f_Model_has on (nI k3)) = (0 : Int32) then (0 : Int32) else if wh = (0 : Int32) then (f_Model_floor f k3) else (f_Model_roof f k3 (f_Model_has st (nI k3)))))), (5, .int (nI (k3 + 1)))] X (nI (k3 + 1)) 5 dX8_sumOf_57 rfl (nI_succ _).symm (by decide) rfl ?_
    refine r_goto X 6 dX8_sumOf_60 rfl ?_
    exact ih
  refine r_iload X 5 dX8_sumOf_6 rfl ?_
  refine r_aload_n X 0 dX8_sumOf_8 rfl ?_
  refine r_iconst X (0 : Int32) dX8_sumOf_9 (by decide) ?_
  refine r_ialdv X (v := nI U) (k0 := 0) dX8_sumOf_10 (hv_w 0 _ rfl) (by omega) (by decide) h0 ?_
  refine r_icmp_ge X 63 dX8_sumOf_11 rfl (fun _ => ?_) (fun z => absurd z (nI_nlt (a := U) (b := U) (by omega) (by omega)))
  refine r_iload X 4 dX8_sumOf_63 rfl ?_
  try subst hf
  exact r_ireturn X Y dX8_sumOf_65 rfl rfl

def f_Model_isMet (f : Nat → Int32) (hr : Nat) (on : Int32) (st : Int32) (U : Nat) : Int32 := if (f (3 + hr)) < (f_Model_sumOf f on st (0 : Int32) U) then (0 : Int32) else if (f_Model_sumOf f on st (1 : Int32) U) < ((f (3 + hr)) + (f 2)) then (0 : Int32) else (1 : Int32)
set_option maxRecDepth 20000 in
set_option maxHeartbeats 4000000 in
theorem c_Model_isMet {G : mG} {h : mHp} {w : Nat} {f : Nat → Int32} {hr : Nat} {on : Int32} {st : Int32} {U : Nat} (hv_w : isV h w (ar41 w f))  (h0 : f 0 = nI U) (hU : U ≤ 4) (hr6 : hr < 6) : Ret G 3 mX8_isMet [.ref w, .int (nI hr), .int on, .int st] h (some (.int (f_Model_isMet f hr on st U))) h := by
  generalize hf : f_Model_isMet f hr on st U = R
  unfold f_Model_isMet at hf
  refine Ret.of [(0, .ref w), (1, .int (nI hr)), (2, .int on), (3, .int st)] (by decide) (Nat.le_of_ble_eq_true rfl) rfl ?_
  rintro Z rfl X Y
  refine r_aload_n X 0 dX8_isMet_0 rfl ?_
  refine r_iload_n X 2 dX8_isMet_1 rfl ?_
  refine r_iload_n X 3 dX8_isMet_2 rfl ?_
  refine r_iconst X (0 : Int32) dX8_isMet_3 (by decide) ?_
  refine cl_X8_179 X (by decide) dX8_isMet_4 (Nat.le_of_ble_eq_true rfl) (c_Model_sumOf (isV1 (hv_w 0 _ rfl)) (by first | assumption | omega) (by first | assumption | omega)) ?_
  refine r_aload_n X 0 dX8_isMet_7 rfl ?_
  refine r_iconst X (3 : Int32) dX8_isMet_8 (by decide) ?_
  refine r_iload_n X 1 dX8_isMet_9 rfl ?_
  refine r_iaddn X (a := 3) (b := hr) dX8_isMet_10 ?_
  refine r_ialdn X (k0 := 3 + hr) dX8_isMet_11 (hv_w 0 _ rfl) (by omega) (by decide) ?_
  refine m_join (P := SW Z 39 [] [.int (if (f (3 + hr)) < (f_Model_sumOf f on st (0 : Int32) U) then (0 : Int32) else if (f_Model_sumOf f on st (1 : Int32) U) < ((f (3 + hr)) + (f 2)) then (0 : Int32) else (1 : Int32))] h) (fun K => ?_) ?_
  · refine r_icmp_gt X 38 dX8_isMet_12 rfl (fun c1 => ?_) (fun c1 => ?_)
    · skip
      refine r_iconst X (0 : Int32) dX8_isMet_38 (by decide) ?_
      refine SW.pick [] [] rfl ?_
      try simp only [if_pos c1] at K ⊢
      exact K
    · skip
      refine r_aload_n X 0 dX8_isMet_15 rfl ?_
      refine r_iload_n X 2 dX8_isMet_16 rfl ?_
      refine r_iload_n X 3 dX8_isMet_17 rfl ?_
      refine r_iconst X (1 : Int32) dX8_isMet_18 (by decide) ?_
      refine cl_X8_179 X (by decide) dX8_isMet_19 (Nat.le_of_ble_eq_true rfl) (c_Model_sumOf (isV1 (hv_w 0 _ rfl)) (by first | assumption | omega) (by first | assumption | omega)) ?_
      refine r_aload_n X 0 dX8_isMet_22 rfl ?_
      refine r_iconst X (3 : Int32) dX8_isMet_23 (by decide) ?_
      refine r_iload_n X 1 dX8_isMet_24 rfl ?_
      refine r_iaddn X (a := 3) (b := hr) dX8_isMet_25 ?_
      refine r_ialdn X (k0 := 3 + hr) dX8_isMet_26 (hv_w 0 _ rfl) (by omega) (by decide) ?_
      refine r_aload_n X 0 dX8_isMet_27 rfl ?_
      refine r_iconst X (2 : Int32) dX8_isMet_28 (by decide) ?_
      refine r_ialdn X (k0 := 2) dX8_isMet_29 (hv_w 0 _ rfl) (by omega) (by decide) ?_
      refine r_iadd X dX8_isMet_30 ?_
      refine m_join (P := SW Z 39 [] [.int (if (f_Model_sumOf f on st (1 : Int32) U) < ((f (3 + hr)) + (f 2)) then (0 : Int32) else (1 : Int32))] h) (fun K => ?_) ?_
      · refine r_icmp_lt X 38 dX8_isMet_31 rfl (fun c2 => ?_) (fun c2 => ?_)
        · skip
          refine r_iconst X (0 : Int32) dX8_isMet_38 (by decide) ?_
          refine SW.pick [] [] rfl ?_
          try simp only [if_pos c2] at K ⊢
          exact K
        · skip
          refine r_iconst X (1 : Int32) dX8_isMet_34 (by decide) ?_
          refine r_goto X 39 dX8_isMet_35 rfl ?_
          refine SW.pick [] [] rfl ?_
          try simp only [if_neg c2] at K ⊢
          exact K
      try simp only [if_neg c1] at K ⊢
      exact K
  try subst hf
  exact r_zreturn X Y dX8_isMet_39 (by (repeat' split) <;> first | exact Or.inl rfl | exact Or.inr rfl) rfl rfl

def f_Model_onAt_L4s (f : Nat → Int32) (x1 : Int32) (k4 : Nat) (x2 : Int32) : Int32 := x2 ||| (if (f_Model_has (f ((9 + (8 * k4)) + 7)) x1) = (0 : Int32) then (0 : Int32) else (1 : Int32) <<< ((nI k4) &&& 31))
def f_Model_onAt_L4 (f : Nat → Int32) (x1 : Int32) (x2 : Int32) : Nat → Int32
  | 0 => x2
  | k4 + 1 => f_Model_onAt_L4s f x1 k4 (f_Model_onAt_L4 f x1 x2 k4)
def f_Model_onAt (f : Nat → Int32) (hr : Int32) (U : Nat) : Int32 := (f_Model_onAt_L4 f hr (0 : Int32) U)
set_option maxRecDepth 20000 in
set_option maxHeartbeats 4000000 in
theorem c_Model_onAt {G : mG} {h : mHp} {w : Nat} {f : Nat → Int32} {hr : Int32} {U : Nat} (hv_w : isV h w (ar41 w f))  (h0 : f 0 = nI U) (hU : U ≤ 4) : Ret G 1 mX8_onAt [.ref w, .int hr] h (some (.int (f_Model_onAt f hr U))) h := by
  generalize hf : f_Model_onAt f hr U = R
  unfold f_Model_onAt at hf
  refine Ret.of [(0, .ref w), (1, .int hr)] (by decide) (Nat.le_of_ble_eq_true rfl) rfl ?_
  rintro Z rfl X Y
  refine r_iconst X (0 : Int32) dX8_onAt_0 (by decide) ?_
  refine r_istore_n [(0, .ref w), (1, .int hr), (2, .int (0 : Int32))] X dX8_onAt_1 rfl (by decide) rfl ?_
  refine r_iconst X (0 : Int32) dX8_onAt_2 (by decide) ?_
  refine r_istore_n [(0, .ref w), (1, .int hr), (2, .int (0 : Int32)), (3, .int (0 : Int32))] X dX8_onAt_3 rfl (by decide) rfl ?_
  refine loop_up (P := fun k2 => SW Z 4 [(0, .ref w), (1, .int hr), (2, .int (f_Model_onAt_L4 f hr (0 : Int32) k2)), (3, .int (nI k2))] [] h) U ?_ ?_ 0 (Nat.zero_le _)
  rotate_left
  · intro k2 hk2 ih
    refine r_iload_n X 3 dX8_onAt_4 rfl ?_
    refine r_aload_n X 0 dX8_onAt_5 rfl ?_
    refine r_iconst X (0 : Int32) dX8_onAt_6 (by decide) ?_
    refine r_ialdv X (v := nI U) (k0 := 0) dX8_onAt_7 (hv_w 0 _ rfl) (by omega) (by decide) h0 ?_
    refine r_icmp_ge X 46 dX8_onAt_8 rfl (fun z => absurd (nI_lt (a := k2) (b := U) (by omega) (by omega)) z) (fun _ => ?_)
    refine r_iload_n X 2 dX8_onAt_11 rfl ?_
    refine r_aload_n X 0 dX8_onAt_12 rfl ?_
    refine r_bipush X (9 : Int32) dX8_onAt_13 (by decide) ?_
    refine r_bipush X (8 : Int32) dX8_onAt_15 (by decide) ?_
    refine r_iload_n X 3 dX8_onAt_17 rfl ?_
    refine r_imuln X (a := 8) (b := k2) dX8_onAt_18 ?_
    refine r_iaddn X (a := 9) (b := 8 * k2) dX8_onAt_19 ?_
    refine r_bipush X (7 : Int32) dX8_onAt_20 (by decide) ?_
    refine r_iaddn X (a := 9 + (8 * k2)) (b := 7) dX8_onAt_22 ?_
    refine r_ialdn X (k0 := (9 + (8 * k2)) + 7) dX8_onAt_23 (hv_w 0 _ rfl) (by omega) (by decide) ?_
    refine r_iload_n X 1 dX8_onAt_24 rfl ?_
    refine cl_X8_165 X (by decide) dX8_onAt_25 (Nat.le_of_ble_eq_true rfl) (c_Model_has  ) ?_
    refine m_join (P := SW Z 38 [(0, .ref w), (1, .int hr), (3, .int (nI k2))] [.int (if (f_Model_has (f ((9 + (8 * k2)) + 7)) hr) = (0 : Int32) then (0 : Int32) else (1 : Int32) <<< ((nI k2) &&& 31)), .int (f_Model_onAt_L4 f hr (0 : Int32) k2)] h) (fun K => ?_) ?_
    · refine r_if_eq X 37 dX8_onAt_28 rfl (fun c3 => ?_) (fun c3 => ?_)
      · skip
        refine r_iconst X (0 : Int32) dX8_onAt_37 (by decide) ?_
        refine SW.pick [0, 1, 3] [(0, .ref w), (1, .int hr), (3, .int (nI k2))] rfl ?_
        try simp only [if_pos c3] at K ⊢
        exact K
      · skip
        refine r_iconst X (1 : Int32) dX8_onAt_31 (by decide) ?_
        refine r_iload_n X 3 dX8_onAt_32 rfl ?_
        refine r_ishl X dX8_onAt_33 ?_
        refine r_goto X 38 dX8_onAt_34 rfl ?_
        refine SW.pick [0, 1, 3] [(0, .ref w), (1, .int hr), (3, .int (nI k2))] rfl ?_
        try simp only [if_neg c3] at K ⊢
        exact K
    refine r_ior X dX8_onAt_38 ?_
    refine r_istore_n [(0, .ref w), (1, .int hr), (2, .int ((f_Model_onAt_L4 f hr (0 : Int32) k2) ||| (if (f_Model_has (f ((9 + (8 * k2)) + 7)) hr) = (0 : Int32) then (0 : Int32) else (1 : Int32) <<< ((nI k2) &&& 31)))), (3, .int (nI k2))] X dX8_onAt_39 rfl (by decide) rfl ?_
    refine r_iinc [(0, .ref w), (1, .int hr), (2, .int ((f_Model_onAt_L4 f hr (0 : Int32) k2) ||| (if (f_Model_has (f ((9 + (8 * k2)) + 7)) hr) = (0 : Int32) then (0 : Int32) else (1 : Int32) <<< ((nI k2) &&& 31)))), (3, .int (nI (k2 + 1)))] X (nI (k2 + 1)) 3 dX8_onAt_40 rfl (nI_succ _).symm (by decide) rfl ?_
    refine r_goto X 4 dX8_onAt_43 rfl ?_
    exact ih
  refine r_iload_n X 3 dX8_onAt_4 rfl ?_
  refine r_aload_n X 0 dX8_onAt_5 rfl ?_
  refine r_iconst X (0 : Int32) dX8_onAt_6 (by decide) ?_
  refine r_ialdv X (v := nI U) (k0 := 0) dX8_onAt_7 (hv_w 0 _ rfl) (by omega) (by decide) h0 ?_
  refine r_icmp_ge X 46 dX8_onAt_8 rfl (fun _ => ?_) (fun z => absurd z (nI_nlt (a := U) (b := U) (by omega) (by omega)))
  refine r_iload_n X 2 dX8_onAt_46 rfl ?_
  try subst hf
  exact r_ireturn X Y dX8_onAt_47 rfl rfl

def f_Model_startingAt_L4s (f : Nat → Int32) (x1 : Int32) (k4 : Nat) (x2 : Int32) : Int32 := x2 ||| (if (f_Model_starts (f ((9 + (8 * k4)) + 7)) x1) = (0 : Int32) then (0 : Int32) else (1 : Int32) <<< ((nI k4) &&& 31))
def f_Model_startingAt_L4 (f : Nat → Int32) (x1 : Int32) (x2 : Int32) : Nat → Int32
  | 0 => x2
  | k4 + 1 => f_Model_startingAt_L4s f x1 k4 (f_Model_startingAt_L4 f x1 x2 k4)
def f_Model_startingAt (f : Nat → Int32) (hr : Int32) (U : Nat) : Int32 := (f_Model_startingAt_L4 f hr (0 : Int32) U)
set_option maxRecDepth 20000 in
set_option maxHeartbeats 4000000 in
theorem c_Model_startingAt {G : mG} {h : mHp} {w : Nat} {f : Nat → Int32} {hr : Int32} {U : Nat} (hv_w : isV h w (ar41 w f))  (h0 : f 0 = nI U) (hU : U ≤ 4) : Ret G 2 mX8_startingAt [.ref w, .int hr] h (some (.int (f_Model_startingAt f hr U))) h := by
  generalize hf : f_Model_startingAt f hr U = R
  unfold f_Model_startingAt at hf
  refine Ret.of [(0, .ref w), (1, .int hr)] (by decide) (Nat.le_of_ble_eq_true rfl) rfl ?_
  rintro Z rfl X Y
  refine r_iconst X (0 : Int32) dX8_startingAt_0 (by decide) ?_
  refine r_istore_n [(0, .ref w), (1, .int hr), (2, .int (0 : Int32))] X dX8_startingAt_1 rfl (by decide) rfl ?_
  refine r_iconst X (0 : Int32) dX8_startingAt_2 (by decide) ?_
  refine r_istore_n [(0, .ref w), (1, .int hr), (2, .int (0 : Int32)), (3, .int (0 : Int32))] X dX8_startingAt_3 rfl (by decide) rfl ?_
  refine loop_up (P := fun k2 => SW Z 4 [(0, .ref w), (1, .int hr), (2, .int (f_Model_startingAt_L4 f hr (0 : Int32) k2)), (3, .int (nI k2))] [] h) U ?_ ?_ 0 (Nat.zero_le _)
  rotate_left
  · intro k2 hk2 ih
    refine r_iload_n X 3 dX8_startingAt_4 rfl ?_
    refine r_aload_n X 0 dX8_startingAt_5 rfl ?_
    refine r_iconst X (0 : Int32) dX8_startingAt_6 (by decide) ?_
    refine r_ialdv X (v := nI U) (k0 := 0) dX8_startingAt_7 (hv_w 0 _ rfl) (by omega) (by decide) h0 ?_
    refine r_icmp_ge X 46 dX8_startingAt_8 rfl (fun z => absurd (nI_lt (a := k2) (b := U) (by omega) (by omega)) z) (fun _ => ?_)
    refine r_iload_n X 2 dX8_startingAt_11 rfl ?_
    refine r_aload_n X 0 dX8_startingAt_12 rfl ?_
    refine r_bipush X (9 : Int32) dX8_startingAt_13 (by decide) ?_
    refine r_bipush X (8 : Int32) dX8_startingAt_15 (by decide) ?_
    refine r_iload_n X 3 dX8_startingAt_17 rfl ?_
    refine r_imuln X (a := 8) (b := k2) dX8_startingAt_18 ?_
    refine r_iaddn X (a := 9) (b := 8 * k2) dX8_startingAt_19 ?_
    refine r_bipush X (7 : Int32) dX8_startingAt_20 (by decide) ?_
    refine r_iaddn X (a := 9 + (8 * k2)) (b := 7) dX8_startingAt_22 ?_
    refine r_ialdn X (k0 := (9 + (8 * k2)) + 7) dX8_startingAt_23 (hv_w 0 _ rfl) (by omega) (by decide) ?_
    refine r_iload_n X 1 dX8_startingAt_24 rfl ?_
    refine cl_X8_169 X (by decide) dX8_startingAt_25 (Nat.le_of_ble_eq_true rfl) (c_Model_starts  ) ?_
    refine m_join (P := SW Z 38 [(0, .ref w), (1, .int hr), (3, .int (nI k2))] [.int (if (f_Model_starts (f ((9 + (8 * k2)) + 7)) hr) = (0 : Int32) then (0 : Int32) else (1 : Int32) <<< ((nI k2) &&& 31)), .int (f_Model_startingAt_L4 f hr (0 : Int32) k2)] h) (fun K => ?_) ?_
    · refine r_if_eq X 37 dX8_startingAt_28 rfl (fun c3 => ?_) (fun c3 => ?_)
      · skip
        refine r_iconst X (0 : Int32) dX8_startingAt_37 (by decide) ?_
        refine SW.pick [0, 1, 3] [(0, .ref w), (1, .int hr), (3, .int (nI k2))] rfl ?_
        try simp only [if_pos c3] at K ⊢
        exact K
      · skip
        refine r_iconst X (1 : Int32) dX8_startingAt_31 (by decide) ?_
        refine r_iload_n X 3 dX8_startingAt_32 rfl ?_
        refine r_ishl X dX8_startingAt_33 ?_
        refine r_goto X 38 dX8_startingAt_34 rfl ?_
        refine SW.pick [0, 1, 3] [(0, .ref w), (1, .int hr), (3, .int (nI k2))] rfl ?_
        try simp only [if_neg c3] at K ⊢
        exact K
    refine r_ior X dX8_startingAt_38 ?_
    refine r_istore_n [(0, .ref w), (1, .int hr), (2, .int ((f_Model_startingAt_L4 f hr (0 : Int32) k2) ||| (if (f_Model_starts (f ((9 + (8 * k2)) + 7)) hr) = (0 : Int32) then (0 : Int32) else (1 : Int32) <<< ((nI k2) &&& 31)))), (3, .int (nI k2))] X dX8_startingAt_39 rfl (by decide) rfl ?_
    refine r_iinc [(0, .ref w), (1, .int hr), (2, .int ((f_Model_startingAt_L4 f hr (0 : Int32) k2) ||| (if (f_Model_starts (f ((9 + (8 * k2)) + 7)) hr) = (0 : Int32) then (0 : Int32) else (1 : Int32) <<< ((nI k2) &&& 31)))), (3, .int (nI (k2 + 1)))] X (nI (k2 + 1)) 3 dX8_startingAt_40 rfl (nI_succ _).symm (by decide) rfl ?_
    refine r_goto X 4 dX8_startingAt_43 rfl ?_
    exact ih
  refine r_iload_n X 3 dX8_startingAt_4 rfl ?_
  refine r_aload_n X 0 dX8_startingAt_5 rfl ?_
  refine r_iconst X (0 : Int32) dX8_startingAt_6 (by decide) ?_
  refine r_ialdv X (v := nI U) (k0 := 0) dX8_startingAt_7 (hv_w 0 _ rfl) (by omega) (by decide) h0 ?_
  refine r_icmp_ge X 46 dX8_startingAt_8 rfl (fun _ => ?_) (fun z => absurd z (nI_nlt (a := U) (b := U) (by omega) (by omega)))
  refine r_iload_n X 2 dX8_startingAt_46 rfl ?_
  try subst hf
  exact r_ireturn X Y dX8_startingAt_47 rfl rfl

def f_Model_stateOf_L4s  (k4 : Nat) (x1 : Int32) : Int32 := x1 * (6 : Int32)
def f_Model_stateOf_L4  (x1 : Int32) : Nat → Int32
  | 0 => x1
  | k4 + 1 => f_Model_stateOf_L4s  k4 (f_Model_stateOf_L4  x1 k4)
def f_Model_stateOf (U : Nat) : Int32 := (f_Model_stateOf_L4  (1 : Int32) U)
set_option maxRecDepth 20000 in
set_option maxHeartbeats 4000000 in
theorem c_Model_stateOf {G : mG} {h : mHp} {w : Nat} {f : Nat → Int32} {U : Nat} (hv_w : isV h w (ar41 w f))  (h0 : f 0 = nI U) (hU : U ≤ 4) : Ret G 0 mX8_stateOf [.ref w] h (some (.int (f_Model_stateOf U))) h := by
  generalize hf : f_Model_stateOf U = R
  unfold f_Model_stateOf at hf
  refine Ret.of [(0, .ref w)] (by decide) (Nat.le_of_ble_eq_true rfl) rfl ?_
  rintro Z rfl X Y
  refine r_iconst X (1 : Int32) dX8_stateOf_0 (by decide) ?_
  refine r_istore_n [(0, .ref w), (1, .int (1 : Int32))] X dX8_stateOf_1 rfl (by decide) rfl ?_
  refine r_iconst X (0 : Int32) dX8_stateOf_2 (by decide) ?_
  refine r_istore_n [(0, .ref w), (1, .int (1 : Int32)), (2, .int (0 : Int32))] X dX8_stateOf_3 rfl (by decide) rfl ?_
  refine loop_up (P := fun k1 => SW Z 4 [(0, .ref w), (1, .int (f_Model_stateOf_L4  (1 : Int32) k1)), (2, .int (nI k1))] [] h) U ?_ ?_ 0 (Nat.zero_le _)
  rotate_left
  · intro k1 hk1 ih
    refine r_iload_n X 2 dX8_stateOf_4 rfl ?_
    refine r_aload_n X 0 dX8_stateOf_5 rfl ?_
    refine r_iconst X (0 : Int32) dX8_stateOf_6 (by decide) ?_
    refine r_ialdv X (v := nI U) (k0 := 0) dX8_stateOf_7 (hv_w 0 _ rfl) (by omega) (by decide) h0 ?_
    refine r_icmp_ge X 22 dX8_stateOf_8 rfl (fun z => absurd (nI_lt (a := k1) (b := U) (by omega) (by omega)) z) (fun _ => ?_)
    refine r_iload_n X 1 dX8_stateOf_11 rfl ?_
    refine r_bipush X (6 : Int32) dX8_stateOf_12 (by decide) ?_
    refine r_imul X dX8_stateOf_14 ?_
    refine r_istore_n [(0, .ref w), (1, .int ((f_Model_stateOf_L4  (1 : Int32) k1) * (6 : Int32))), (2, .int (nI k1))] X dX8_stateOf_15 rfl (by decide) rfl ?_
    refine r_iinc [(0, .ref w), (1, .int ((f_Model_stateOf_L4  (1 : Int32) k1) * (6 : Int32))), (2, .int (nI (k1 + 1)))] X (nI (k1 + 1)) 2 dX8_stateOf_16 rfl (nI_succ _).symm (by decide) rfl ?_
    refine r_goto X 4 dX8_stateOf_19 rfl ?_
    exact ih
  refine r_iload_n X 2 dX8_stateOf_4 rfl ?_
  refine r_aload_n X 0 dX8_stateOf_5 rfl ?_
  refine r_iconst X (0 : Int32) dX8_stateOf_6 (by decide) ?_
  refine r_ialdv X (v := nI U) (k0 := 0) dX8_stateOf_7 (hv_w 0 _ rfl) (by omega) (by decide) h0 ?_
  refine r_icmp_ge X 22 dX8_stateOf_8 rfl (fun _ => ?_) (fun z => absurd z (nI_nlt (a := U) (b := U) (by omega) (by omega)))
  refine r_iload_n X 1 dX8_stateOf_22 rfl ?_
  try subst hf
  exact r_ireturn X Y dX8_stateOf_23 rfl rfl
