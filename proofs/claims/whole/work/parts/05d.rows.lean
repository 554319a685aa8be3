def rowL (r : Nat) (it : Nat → Nat → Int32) (lan siz : Nat → Int32) : List mC := [.inr (4, [.ref (r + 1), .ref (r + 10), .ref (r + 11)]), .inl (4, 8, .inr (.inr (.inr (.inr (fun i => some (r + (2 + i))))))), .inl (0, 40, .inl (it 0)), .inl (0, 40, .inl (it 1)), .inl (0, 40, .inl (it 2)), .inl (0, 40, .inl (it 3)), .inl (0, 40, .inl (it 4)), .inl (0, 40, .inl (it 5)), .inl (0, 40, .inl (it 6)), .inl (0, 40, .inl (it 7)), .inl (0, 8, .inl lan), .inl (0, 8, .inl siz)]
theorem rowL_it {r : Nat} {it : Nat → Nat → Int32} {lan siz : Nat → Int32} {i : Nat} (hi : i < 8) : (rowL r it lan siz)[2 + i]? = some (.inl (0, 40, .inl (it i))) := by
  match i, hi with
  | 0, _ => rfl
  | 1, _ => rfl
  | 2, _ => rfl
  | 3, _ => rfl
  | 4, _ => rfl
  | 5, _ => rfl
  | 6, _ => rfl
  | 7, _ => rfl
theorem rowL_set {r : Nat} {it : Nat → Nat → Int32} {lan siz f : Nat → Int32} {i : Nat} (hi : i < 8) : (rowL r it lan siz).set (2 + i) (.inl (0, 40, .inl f)) = rowL r (va_up it i f) lan siz := by
  match i, hi with
  | 0, _ => rfl
  | 1, _ => rfl
  | 2, _ => rfl
  | 3, _ => rfl
  | 4, _ => rfl
  | 5, _ => rfl
  | 6, _ => rfl
  | 7, _ => rfl

def f_Rows_isMissing (siz : Nat → Int32) (w : Nat) : Int32 := if (siz w) = (-1 : Int32) then (1 : Int32) else (0 : Int32)
set_option maxRecDepth 20000 in
set_option maxHeartbeats 4000000 in
theorem c_Rows_isMissing {G : mG} {h : mHp} {r : Nat} {it : Nat → Nat → Int32} {lan : Nat → Int32} {siz : Nat → Int32} {w : Nat} (hv_r : isV h r (rowL r it lan siz))  (hw : w < 8) : Ret G 0 mX4_isMissing [.ref r, .int (nI w)] h (some (.int (f_Rows_isMissing siz w))) h := by
  generalize hf : f_Rows_isMissing siz w = R
  unfold f_Rows_isMissing at hf
  refine Ret.of [(0, .ref r), (1, .int (nI w))] (by decide) (Nat.le_of_ble_eq_true rfl) rfl ?_
  rintro Z rfl X Y
  refine r_aload_n X 0 dX4_isMissing_0 rfl ?_
  refine gf_X4_18 X dX4_isMissing_1 (hv_r 0 _ rfl) rfl ?_
  refine r_iload_n X 1 dX4_isMissing_4 rfl ?_
  refine r_ialdn X (k0 := w) dX4_isMissing_5 (hv_r 11 _ rfl) (by omega) (by decide) ?_
  refine r_iconst X (-1 : Int32) dX4_isMissing_6 (by decide) ?_
  refine m_join (P := SW Z 15 [] [.int (if (siz w) = (-1 : Int32) then (1 : Int32) else (0 : Int32))] h) (fun K => ?_) ?_
  · refine r_icmp_ne X 14 dX4_isMissing_7 rfl (fun c1 => ?_) (fun c1 => ?_)
    · skip
      refine r_iconst X (0 : Int32) dX4_isMissing_14 (by decide) ?_
      refine SW.pick [] [] rfl ?_
      try simp only [if_neg c1] at K ⊢
      exact K
    · skip
      refine r_iconst X (1 : Int32) dX4_isMissing_10 (by decide) ?_
      refine r_goto X 15 dX4_isMissing_11 rfl ?_
      refine SW.pick [] [] rfl ?_
      try simp only [if_pos c1] at K ⊢
      exact K
  try subst hf
  exact r_zreturn X Y dX4_isMissing_15 (by (repeat' split) <;> first | exact Or.inl rfl | exact Or.inr rfl) rfl rfl

def f_Rows_lacks (siz : Nat → Int32) (w : Nat) (i : Int32) (n : Int32) : Int32 := if i < (0 : Int32) then (1 : Int32) else if n < (0 : Int32) then (1 : Int32) else if (siz w) < i then (1 : Int32) else if ((siz w) - i) < n then (1 : Int32) else (0 : Int32)
set_option maxRecDepth 20000 in
set_option maxHeartbeats 4000000 in
theorem c_Rows_lacks {G : mG} {h : mHp} {r : Nat} {it : Nat → Nat → Int32} {lan : Nat → Int32} {siz : Nat → Int32} {w : Nat} {i : Int32} {n : Int32} (hv_r : isV h r (rowL r it lan siz))  (hw : w < 8) : Ret G 0 mX4_lacks [.ref r, .int (nI w), .int i, .int n] h (some (.int (f_Rows_lacks siz w i n))) h := by
  generalize hf : f_Rows_lacks siz w i n = R
  unfold f_Rows_lacks at hf
  refine Ret.of [(0, .ref r), (1, .int (nI w)), (2, .int i), (3, .int n)] (by decide) (Nat.le_of_ble_eq_true rfl) rfl ?_
  rintro Z rfl X Y
  refine r_iload_n X 2 dX4_lacks_0 rfl ?_
  refine m_join (P := SW Z 35 [] [.int (if i < (0 : Int32) then (1 : Int32) else if n < (0 : Int32) then (1 : Int32) else if (siz w) < i then (1 : Int32) else if ((siz w) - i) < n then (1 : Int32) else (0 : Int32))] h) (fun K => ?_) ?_
  · refine r_if_lt X 30 dX4_lacks_1 rfl (fun c1 => ?_) (fun c1 => ?_)
    · skip
      refine r_iconst X (1 : Int32) dX4_lacks_30 (by decide) ?_
      refine r_goto X 35 dX4_lacks_31 rfl ?_
      refine SW.pick [] [] rfl ?_
      try simp only [if_pos c1] at K ⊢
      exact K
    · skip
      refine r_iload_n X 3 dX4_lacks_4 rfl ?_
      refine m_join (P := SW Z 35 [] [.int (if n < (0 : Int32) then (1 : Int32) else if (siz w) < i then (1 : Int32) else if ((siz w) - i) < n then (1 : Int32) else (0 : Int32))] h) (fun K => ?_) ?_
      · refine r_if_lt X 30 dX4_lacks_5 rfl (fun c2 => ?_) (fun c2 => ?_)
        · skip
          refine r_iconst X (1 : Int32) dX4_lacks_30 (by decide) ?_
          refine r_goto X 35 dX4_lacks_31 rfl ?_
          refine SW.pick [] [] rfl ?_
          try simp only [if_pos c2] at K ⊢
          exact K
        · skip
          refine r_iload_n X 2 dX4_lacks_8 rfl ?_
          refine r_aload_n X 0 dX4_lacks_9 rfl ?_
          refine gf_X4_18 X dX4_lacks_10 (hv_r 0 _ rfl) rfl ?_
          refine r_iload_n X 1 dX4_lacks_13 rfl ?_
          refine r_ialdn X (k0 := w) dX4_lacks_14 (hv_r 11 _ rfl) (by omega) (by decide) ?_
          refine m_join (P := SW Z 35 [] [.int (if (siz w) < i then (1 : Int32) else if ((siz w) - i) < n then (1 : Int32) else (0 : Int32))] h) (fun K => ?_) ?_
          · refine r_icmp_gt X 30 dX4_lacks_15 rfl (fun c3 => ?_) (fun c3 => ?_)
            · skip
              refine r_iconst X (1 : Int32) dX4_lacks_30 (by decide) ?_
              refine r_goto X 35 dX4_lacks_31 rfl ?_
              refine SW.pick [] [] rfl ?_
              try simp only [if_pos c3] at K ⊢
              exact K
            · skip
              refine r_iload_n X 3 dX4_lacks_18 rfl ?_
              refine r_aload_n X 0 dX4_lacks_19 rfl ?_
              refine gf_X4_18 X dX4_lacks_20 (hv_r 0 _ rfl) rfl ?_
              refine r_iload_n X 1 dX4_lacks_23 rfl ?_
              refine r_ialdn X (k0 := w) dX4_lacks_24 (hv_r 11 _ rfl) (by omega) (by decide) ?_
              refine r_iload_n X 2 dX4_lacks_25 rfl ?_
              refine r_isub X dX4_lacks_26 ?_
              refine m_join (P := SW Z 35 [] [.int (if ((siz w) - i) < n then (1 : Int32) else (0 : Int32))] h) (fun K => ?_) ?_
              · refine r_icmp_le X 34 dX4_lacks_27 rfl (fun c4 => ?_) (fun c4 => ?_)
                · skip
                  refine r_iconst X (0 : Int32) dX4_lacks_34 (by decide) ?_
                  refine SW.pick [] [] rfl ?_
                  try simp only [if_neg c4] at K ⊢
                  exact K
                · skip
                  refine r_iconst X (1 : Int32) dX4_lacks_30 (by decide) ?_
                  refine r_goto X 35 dX4_lacks_31 rfl ?_
                  refine SW.pick [] [] rfl ?_
                  try simp only [if_pos c4] at K ⊢
                  exact K
              try simp only [if_neg c3] at K ⊢
              exact K
          try simp only [if_neg c2] at K ⊢
          exact K
      try simp only [if_neg c1] at K ⊢
      exact K
  try subst hf
  exact r_zreturn X Y dX4_lacks_35 (by (repeat' split) <;> first | exact Or.inl rfl | exact Or.inr rfl) rfl rfl

def f_Rows_make (it : Nat → Nat → Int32) (lan : Nat → Int32) (siz : Nat → Int32) (w : Nat) (la : Int32) (n : Int32) : (Nat → Nat → Int32) × (Nat → Int32) × (Nat → Int32) := (va_up it w (f_fillI 40 (it w) (0 : Int32)), upd lan w la, upd siz w n)
set_option maxRecDepth 20000 in
set_option maxHeartbeats 4000000 in
theorem c_Rows_make {G : mG} {h : mHp} {r : Nat} {it : Nat → Nat → Int32} {lan : Nat → Int32} {siz : Nat → Int32} {w : Nat} {la : Int32} {n : Int32}   (hw : w < 8) : Ret G 1 mX4_make [.ref r, .int (nI w), .int la, .int n] (ov h r (rowL r it lan siz)) none (ov h r (rowL r (f_Rows_make it lan siz w la n).1 (f_Rows_make it lan siz w la n).2.1 (f_Rows_make it lan siz w la n).2.2)) := by
  generalize hf : f_Rows_make it lan siz w la n = R
  unfold f_Rows_make at hf
  refine Ret.of [(0, .ref r), (1, .int (nI w)), (2, .int la), (3, .int n)] (by decide) (Nat.le_of_ble_eq_true rfl) rfl ?_
  rintro Z rfl X Y
  have hv_r : isV (ov h r (rowL r it lan siz)) r (rowL r it lan siz) := ov_isV
  refine r_aload_n X 0 dX4_make_0 rfl ?_
  refine gf_X4_11 X dX4_make_1 (hv_r 0 _ rfl) rfl ?_
  refine r_iload_n X 1 dX4_make_4 rfl ?_
  refine r_aald4n X (k0 := w) (r + (2 + w)) dX4_make_5 (hv_r 1 _ rfl) (by omega) (by decide) rfl ?_
  refine r_iconst X (0 : Int32) dX4_make_6 (by decide) ?_
  refine cl_X4_21 X (by decide) dX4_make_7 (Nat.le_of_ble_eq_true rfl) (c_fillI_up (hv_r (2 + w) _ (rowL_it (by omega))) (by decide)) ?_
  refine SW.heq (h2 := (ov h r (rowL r (va_up it w (f_fillI 40 (it w) (0 : Int32))) lan siz))) (ov_up (2 + w) (show _ < 12 by omega) (rowL_set (by omega))) ?_
  have hv_r : isV (ov h r (rowL r (va_up it w (f_fillI 40 (it w) (0 : Int32))) lan siz)) r (rowL r (va_up it w (f_fillI 40 (it w) (0 : Int32))) lan siz) := ov_isV
  refine r_aload_n X 0 dX4_make_10 rfl ?_
  refine gf_X4_14 X dX4_make_11 (hv_r 0 _ rfl) rfl ?_
  refine r_iload_n X 1 dX4_make_14 rfl ?_
  refine r_iload_n X 2 dX4_make_15 rfl ?_
  refine r_iastn X (k0 := w) dX4_make_16 (hv_r 10 _ rfl) (by omega) (by first | decide | omega) ?_
  refine SW.heq (h2 := (ov h r (rowL r (va_up it w (f_fillI 40 (it w) (0 : Int32))) (upd lan w la) siz))) (ov_up 10 (Nat.le_of_ble_eq_true rfl) rfl) ?_
  have hv_r : isV (ov h r (rowL r (va_up it w (f_fillI 40 (it w) (0 : Int32))) (upd lan w la) siz)) r (rowL r (va_up it w (f_fillI 40 (it w) (0 : Int32))) (upd lan w la) siz) := ov_isV
  refine r_aload_n X 0 dX4_make_17 rfl ?_
  refine gf_X4_18 X dX4_make_18 (hv_r 0 _ rfl) rfl ?_
  refine r_iload_n X 1 dX4_make_21 rfl ?_
  refine r_iload_n X 3 dX4_make_22 rfl ?_
  refine r_iastn X (k0 := w) dX4_make_23 (hv_r 11 _ rfl) (by omega) (by first | decide | omega) ?_
  refine SW.heq (h2 := (ov h r (rowL r (va_up it w (f_fillI 40 (it w) (0 : Int32))) (upd lan w la) (upd siz w n)))) (ov_up 11 (Nat.le_of_ble_eq_true rfl) rfl) ?_
  have hv_r : isV (ov h r (rowL r (va_up it w (f_fillI 40 (it w) (0 : Int32))) (upd lan w la) (upd siz w n))) r (rowL r (va_up it w (f_fillI 40 (it w) (0 : Int32))) (upd lan w la) (upd siz w n)) := ov_isV
  try subst hf
  exact r_return X Y dX4_make_24 rfl rfl

def f_Rows_put (it : Nat → Nat → Int32) (lan : Nat → Int32) (w : Nat) (i : Nat) (v : Int32) : Int32 × (Nat → Nat → Int32) := (if (lan w) = (0 : Int32) then v.toInt8.toInt32 else if (lan w) = (1 : Int32) then v.toInt16.toInt32 else v, va_up it w (upd (it w) i (if (lan w) = (0 : Int32) then v.toInt8.toInt32 else if (lan w) = (1 : Int32) then v.toInt16.toInt32 else v)))
set_option maxRecDepth 20000 in
set_option maxHeartbeats 4000000 in
theorem c_Rows_put {G : mG} {h : mHp} {r : Nat} {it : Nat → Nat → Int32} {lan : Nat → Int32} {siz : Nat → Int32} {w : Nat} {i : Nat} {v : Int32}   (hw : w < 8) (hi : i < 40) : Ret G 0 mX4_put [.ref r, .int (nI w), .int (nI i), .int v] (ov h r (rowL r it lan siz)) (some (.int (f_Rows_put it lan w i v).1)) (ov h r (rowL r (f_Rows_put it lan w i v).2 lan siz)) := by
  generalize hf : f_Rows_put it lan w i v = R
  unfold f_Rows_put at hf
  refine Ret.of [(0, .ref r), (1, .int (nI w)), (2, .int (nI i)), (3, .int v)] (by decide) (Nat.le_of_ble_eq_true rfl) rfl ?_
  rintro Z rfl X Y
  have hv_r : isV (ov h r (rowL r it lan siz)) r (rowL r it lan siz) := ov_isV
  refine r_iload_n X 3 dX4_put_0 rfl ?_
  refine r_istore [(0, .ref r), (1, .int (nI w)), (2, .int (nI i)), (3, .int v), (4, .int v)] X dX4_put_1 (by decide) rfl ?_
  refine r_aload_n X 0 dX4_put_3 rfl ?_
  refine gf_X4_14 X dX4_put_4 (hv_r 0 _ rfl) rfl ?_
  refine r_iload_n X 1 dX4_put_7 rfl ?_
  refine r_ialdn X (k0 := w) dX4_put_8 (hv_r 10 _ rfl) (by omega) (by decide) ?_
  refine m_join (P := SW Z 33 [(0, .ref r), (1, .int (nI w)), (2, .int (nI i)), (4, .int (if (lan w) = (0 : Int32) then v.toInt8.toInt32 else if (lan w) = (1 : Int32) then v.toInt16.toInt32 else v))] [] (ov h r (rowL r it lan siz))) (fun K => ?_) ?_
  · refine r_if_ne X 19 dX4_put_9 rfl (fun c1 => ?_) (fun c1 => ?_)
    · skip
      refine r_aload_n X 0 dX4_put_19 rfl ?_
      refine gf_X4_14 X dX4_put_20 (hv_r 0 _ rfl) rfl ?_
      refine r_iload_n X 1 dX4_put_23 rfl ?_
      refine r_ialdn X (k0 := w) dX4_put_24 (hv_r 10 _ rfl) (by omega) (by decide) ?_
      refine r_iconst X (1 : Int32) dX4_put_25 (by decide) ?_
      refine m_join (P := SW Z 33 [(0, .ref r), (1, .int (nI w)), (2, .int (nI i)), (4, .int (if (lan w) = (1 : Int32) then v.toInt16.toInt32 else v))] [] (ov h r (rowL r it lan siz))) (fun K => ?_) ?_
      · refine r_icmp_ne X 33 dX4_put_26 rfl (fun c2 => ?_) (fun c2 => ?_)
        · skip
          refine SW.pick [0, 1, 2, 4] [(0, .ref r), (1, .int (nI w)), (2, .int (nI i)), (4, .int v)] rfl ?_
          try simp only [if_neg c2] at K ⊢
          exact K
        · skip
          refine r_iload_n X 3 dX4_put_29 rfl ?_
          refine r_i2s X dX4_put_30 ?_
          refine r_istore [(0, .ref r), (1, .int (nI w)), (2, .int (nI i)), (3, .int v), (4, .int v.toInt16.toInt32)] X dX4_put_31 (by decide) rfl ?_
          refine SW.pick [0, 1, 2, 4] [(0, .ref r), (1, .int (nI w)), (2, .int (nI i)), (4, .int v.toInt16.toInt32)] rfl ?_
          try simp only [if_pos c2] at K ⊢
          exact K
      have hv_r : isV (ov h r (rowL r it lan siz)) r (rowL r it lan siz) := ov_isV
      try simp only [if_neg c1] at K ⊢
      exact K
    · skip
      refine r_iload_n X 3 dX4_put_12 rfl ?_
      refine r_i2b X dX4_put_13 ?_
      refine r_istore [(0, .ref r), (1, .int (nI w)), (2, .int (nI i)), (3, .int v), (4, .int v.toInt8.toInt32)] X dX4_put_14 (by decide) rfl ?_
      refine r_goto X 33 dX4_put_16 rfl ?_
      refine SW.pick [0, 1, 2, 4] [(0, .ref r), (1, .int (nI w)), (2, .int (nI i)), (4, .int v.toInt8.toInt32)] rfl ?_
      try simp only [if_pos c1] at K ⊢
      exact K
  have hv_r : isV (ov h r (rowL r it lan siz)) r (rowL r it lan siz) := ov_isV
  refine r_aload_n X 0 dX4_put_33 rfl ?_
  refine gf_X4_11 X dX4_put_34 (hv_r 0 _ rfl) rfl ?_
  refine r_iload_n X 1 dX4_put_37 rfl ?_
  refine r_aald4n X (k0 := w) (r + (2 + w)) dX4_put_38 (hv_r 1 _ rfl) (by omega) (by decide) rfl ?_
  refine r_iload_n X 2 dX4_put_39 rfl ?_
  refine r_iload X 3 dX4_put_40 rfl ?_
  refine r_iastn X (k0 := i) dX4_put_42 (hv_r (2 + w) _ (rowL_it (by omega))) (by omega) (by first | decide | omega) ?_
  refine SW.heq (h2 := (ov h r (rowL r (va_up it w (upd (it w) i (if (lan w) = (0 : Int32) then v.toInt8.toInt32 else if (lan w) = (1 : Int32) then v.toInt16.toInt32 else v))) lan siz))) (ov_up (2 + w) (show _ < 12 by omega) (rowL_set (by omega))) ?_
  have hv_r : isV (ov h r (rowL r (va_up it w (upd (it w) i (if (lan w) = (0 : Int32) then v.toInt8.toInt32 else if (lan w) = (1 : Int32) then v.toInt16.toInt32 else v))) lan siz)) r (rowL r (va_up it w (upd (it w) i (if (lan w) = (0 : Int32) then v.toInt8.toInt32 else if (lan w) = (1 : Int32) then v.toInt16.toInt32 else v))) lan siz) := ov_isV
  refine r_iload X 3 dX4_put_43 rfl ?_
  try subst hf
  exact r_ireturn X Y dX4_put_45 rfl rfl

def f_Rows_lose (siz : Nat → Int32) (w : Nat) : Int32 × (Nat → Int32) := (siz w, upd siz w (-1 : Int32))
set_option maxRecDepth 20000 in
set_option maxHeartbeats 4000000 in
theorem c_Rows_lose {G : mG} {h : mHp} {r : Nat} {it : Nat → Nat → Int32} {lan : Nat → Int32} {siz : Nat → Int32} {w : Nat}   (hw : w < 8) : Ret G 0 mX4_lose [.ref r, .int (nI w)] (ov h r (rowL r it lan siz)) (some (.int (f_Rows_lose siz w).1)) (ov h r (rowL r it lan (f_Rows_lose siz w).2)) := by
  generalize hf : f_Rows_lose siz w = R
  unfold f_Rows_lose at hf
  refine Ret.of [(0, .ref r), (1, .int (nI w))] (by decide) (Nat.le_of_ble_eq_true rfl) rfl ?_
  rintro Z rfl X Y
  have hv_r : isV (ov h r (rowL r it lan siz)) r (rowL r it lan siz) := ov_isV
  refine r_aload_n X 0 dX4_lose_0 rfl ?_
  refine gf_X4_18 X dX4_lose_1 (hv_r 0 _ rfl) rfl ?_
  refine r_iload_n X 1 dX4_lose_4 rfl ?_
  refine r_ialdn X (k0 := w) dX4_lose_5 (hv_r 11 _ rfl) (by omega) (by decide) ?_
  refine r_istore_n [(0, .ref r), (1, .int (nI w)), (2, .int (siz w))] X dX4_lose_6 rfl (by decide) rfl ?_
  refine r_aload_n X 0 dX4_lose_7 rfl ?_
  refine gf_X4_18 X dX4_lose_8 (hv_r 0 _ rfl) rfl ?_
  refine r_iload_n X 1 dX4_lose_11 rfl ?_
  refine r_iconst X (-1 : Int32) dX4_lose_12 (by decide) ?_
  refine r_iastn X (k0 := w) dX4_lose_13 (hv_r 11 _ rfl) (by omega) (by first | decide | omega) ?_
  refine SW.heq (h2 := (ov h r (rowL r it lan (upd siz w (-1 : Int32))))) (ov_up 11 (Nat.le_of_ble_eq_true rfl) rfl) ?_
  have hv_r : isV (ov h r (rowL r it lan (upd siz w (-1 : Int32)))) r (rowL r it lan (upd siz w (-1 : Int32))) := ov_isV
  refine r_iload_n X 2 dX4_lose_14 rfl ?_
  try subst hf
  exact r_ireturn X Y dX4_lose_15 rfl rfl

def f_Rows_countThere_L4s (siz : Nat → Int32) (k4 : Nat) (x1 : Int32) : Int32 := if (f_Rows_isMissing siz k4) = (0 : Int32) then x1 + (1 : Int32) else x1
def f_Rows_countThere_L4 (siz : Nat → Int32) (x1 : Int32) : Nat → Int32
  | 0 => x1
  | k4 + 1 => f_Rows_countThere_L4s siz k4 (f_Rows_countThere_L4 siz x1 k4)
def f_Rows_countThere (siz : Nat → Int32) : Int32 := (f_Rows_countThere_L4 siz (0 : Int32) 8)
set_option maxRecDepth 20000 in
set_option maxHeartbeats 4000000 in
theorem c_Rows_countThere {G : mG} {h : mHp} {r : Nat} {it : Nat → Nat → Int32} {lan : Nat → Int32} {siz : Nat → Int32} (hv_r : isV h r (rowL r it lan siz))   : Ret G 1 mX4_countThere [.ref r] h (some (.int (f_Rows_countThere siz))) h := by
  generalize hf : f_Rows_countThere siz = R
  unfold f_Rows_countThere at hf
  refine Ret.of [(0, .ref r)] (by decide) (Nat.le_of_ble_eq_true rfl) rfl ?_
  rintro Z rfl X Y
  refine r_iconst X (0 : Int32) dX4_countThere_0 (by decide) ?_
  refine r_istore_n [(0, .ref r), (1, .int (0 : Int32))] X dX4_countThere_1 rfl (by decide) rfl ?_
  refine r_iconst X (0 : Int32) dX4_countThere_2 (by decide) ?_
  refine r_istore_n [(0, .ref r), (1, .int (0 : Int32)), (2, .int (0 : Int32))] X dX4_countThere_3 rfl (by decide) rfl ?_
  refine loop_up (P := fun k2 => SW Z 4 [(0, .ref r), (1, .int (f_Rows_countThere_L4 siz (0 : Int32) k2)), (2, .int (nI k2))] [] h) 8 ?_ ?_ 0 (Nat.zero_le _)
  rotate_left
  · intro k2 hk2 ih
    refine r_iload_n X 2 dX4_countThere_4 rfl ?_
    refine r_bipush X (8 : Int32) dX4_countThere_5 (by decide) ?_
    refine r_icmp_ge X 27 dX4_countThere_7 rfl (fun z => absurd (nI_lt (a := k2) (b := 8) (by omega) (by omega)) z) (fun _ => ?_)
    refine r_aload_n X 0 dX4_countThere_10 rfl ?_
    refine r_iload_n X 2 dX4_countThere_11 rfl ?_
    refine cl_X4_27 X (by decide) dX4_countThere_12 (Nat.le_of_ble_eq_true rfl) (hv_r 0 _ rfl) (c_Rows_isMissing hv_r (by first | assumption | omega)) ?_
    refine m_join (P := SW Z 21 [(0, .ref r), (1, .int (if (f_Rows_isMissing siz k2) = (0 : Int32) then (f_Rows_countThere_L4 siz (0 : Int32) k2) + (1 : Int32) else (f_Rows_countThere_L4 siz (0 : Int32) k2))), (2, .int (nI k2))] [] h) (fun K => ?_) ?_
    · refine r_if_ne X 21 dX4_countThere_15 rfl (fun c3 => ?_) (fun c3 => ?_)
      · skip
        try simp only [if_neg c3] at K ⊢
        exact K
      · skip
        refine r_iinc [(0, .ref r), (1, .int ((f_Rows_countThere_L4 siz (0 : Int32) k2) + (1 : Int32))), (2, .int (nI k2))] X ((f_Rows_countThere_L4 siz (0 : Int32) k2) + (1 : Int32)) 1 dX4_countThere_18 rfl rfl (by decide) rfl ?_
        try simp only [if_pos c3] at K ⊢
        exact K
    refine r_iinc [(0, .ref r), (1, .int (if (f_Rows_isMissing siz k2) = (0 : Int32) then (f_Rows_countThere_L4 siz (0 : Int32) k2) + (1 : Int32) else (f_Rows_countThere_L4 siz (0 : Int32) k2))), (2, .int (nI (k2 + 1)))] X (nI (k2 + 1)) 2 dX4_countThere_21 rfl (nI_succ _).symm (by decide) rfl ?_
    refine r_goto X 4 dX4_countThere_24 rfl ?_
    exact ih
  refine r_iload_n X 2 dX4_countThere_4 rfl ?_
  refine r_bipush X (8 : Int32) dX4_countThere_5 (by decide) ?_
  refine r_icmp_ge X 27 dX4_countThere_7 rfl (fun _ => ?_) (fun z => absurd z (nI_nlt (a := 8) (b := 8) (by omega) (by omega)))
  refine r_iload_n X 1 dX4_countThere_27 rfl ?_
  try subst hf
  exact r_ireturn X Y dX4_countThere_28 rfl rfl
