def dayL (d : Nat) (H U : Nat) (res : Int32) (dem kin low hig pri sta ups dow onn : Nat → Int32) (ord : Nat → Nat) (flo sro sco : Nat → Int32) : List mC := [.inr (2, [.int (nI H), .int (nI U), .int res, .ref (d + 1), .ref (d + 2), .ref (d + 3), .ref (d + 4), .ref (d + 5), .ref (d + 6), .ref (d + 7), .ref (d + 8), .ref (d + 9), .ref (d + 10), .ref (d + 11), .ref (d + 12), .ref (d + 13)]), .inl (0, 6, .inl dem), .inl (0, 4, .inl kin), .inl (0, 4, .inl low), .inl (0, 4, .inl hig), .inl (0, 4, .inl pri), .inl (0, 4, .inl sta), .inl (0, 4, .inl ups), .inl (0, 4, .inl dow), .inl (0, 4, .inl onn), .inl (0, 4, .inl (fun j => nI (ord j))), .inl (0, 4, .inl flo), .inl (0, 4, .inl sro), .inl (0, 4, .inl sco)]

theorem nI_ltX {a b : Nat} (h : nI a < nI b) (ha : a < 2 ^ 31) (hb : b < 2 ^ 31) : a < b := (nI_ltI ha hb).mp h

def f_startsAmong (on : Int32) : Int32 := on &&& ((on <<< ((1 : Int32) &&& 31)) ^^^ (-1 : Int32))
set_option maxRecDepth 20000 in
set_option maxHeartbeats 4000000 in
theorem c_startsAmong {G : mG} {h : mHp} {on : Int32}    : Ret G 0 mX7_startsAmong [.int on] h (some (.int (f_startsAmong on))) h := by
  generalize hf : f_startsAmong on = R
  unfold f_startsAmong at hf
  refine Ret.of [(0, .int on)] (by decide) (Nat.le_of_ble_eq_true rfl) rfl ?_
  rintro Z rfl X Y
  refine r_iload_n X 0 dX7_startsAmong_0 rfl ?_
  refine r_iload_n X 0 dX7_startsAmong_1 rfl ?_
  refine r_iconst X (1 : Int32) dX7_startsAmong_2 (by decide) ?_
  refine r_ishl X dX7_startsAmong_3 ?_
  refine r_iconst X (-1 : Int32) dX7_startsAmong_4 (by decide) ?_
  refine r_ixor X dX7_startsAmong_5 ?_
  refine r_iand X dX7_startsAmong_6 ?_
  try subst hf
  exact r_ireturn X Y dX7_startsAmong_7 rfl rfl

def f_Day_allHours (H : Nat) : Int32 := ((1 : Int32) <<< ((nI H) &&& 31)) - (1 : Int32)
set_option maxRecDepth 20000 in
set_option maxHeartbeats 4000000 in
theorem c_Day_allHours {G : mG} {h : mHp} {d : Nat} {H : Nat} {U : Nat} {res : Int32} {dem : Nat → Int32} {kin : Nat → Int32} {low : Nat → Int32} {hig : Nat → Int32} {pri : Nat → Int32} {sta : Nat → Int32} {ups : Nat → Int32} {dow : Nat → Int32} {onn : Nat → Int32} {ord : Nat → Nat} {flo : Nat → Int32} {sro : Nat → Int32} {sco : Nat → Int32} (hv_d : isV h d (dayL d H U res dem kin low hig pri sta ups dow onn ord flo sro sco))   : Ret G 0 mX2_allHours [.ref d] h (some (.int (f_Day_allHours H))) h := by
  generalize hf : f_Day_allHours H = R
  unfold f_Day_allHours at hf
  refine Ret.of [(0, .ref d)] (by decide) (Nat.le_of_ble_eq_true rfl) rfl ?_
  rintro Z rfl X Y
  refine r_iconst X (1 : Int32) dX2_allHours_0 (by decide) ?_
  refine r_aload_n X 0 dX2_allHours_1 rfl ?_
  refine gf_X2_51 X dX2_allHours_2 (hv_d 0 _ rfl) rfl ?_
  refine r_ishl X dX2_allHours_5 ?_
  refine r_iconst X (1 : Int32) dX2_allHours_6 (by decide) ?_
  refine r_isub X dX2_allHours_7 ?_
  try subst hf
  exact r_ireturn X Y dX2_allHours_8 rfl rfl

def f_Day_sumDemands_L4s (dem : Nat → Int32) (k4 : Nat) (x1 : Int32) : Int32 := x1 + (dem k4)
def f_Day_sumDemands_L4 (dem : Nat → Int32) (x1 : Int32) : Nat → Int32
  | 0 => x1
  | k4 + 1 => f_Day_sumDemands_L4s dem k4 (f_Day_sumDemands_L4 dem x1 k4)
def f_Day_sumDemands (H : Nat) (dem : Nat → Int32) : Int32 := (f_Day_sumDemands_L4 dem (0 : Int32) H)
set_option maxRecDepth 20000 in
set_option maxHeartbeats 4000000 in
theorem c_Day_sumDemands {G : mG} {h : mHp} {d : Nat} {H : Nat} {U : Nat} {res : Int32} {dem : Nat → Int32} {kin : Nat → Int32} {low : Nat → Int32} {hig : Nat → Int32} {pri : Nat → Int32} {sta : Nat → Int32} {ups : Nat → Int32} {dow : Nat → Int32} {onn : Nat → Int32} {ord : Nat → Nat} {flo : Nat → Int32} {sro : Nat → Int32} {sco : Nat → Int32} (hv_d : isV h d (dayL d H U res dem kin low hig pri sta ups dow onn ord flo sro sco))  (hH : H ≤ 6) : Ret G 0 mX2_sumDemands [.ref d] h (some (.int (f_Day_sumDemands H dem))) h := by
  generalize hf : f_Day_sumDemands H dem = R
  unfold f_Day_sumDemands at hf
  refine Ret.of [(0, .ref d)] (by decide) (Nat.le_of_ble_eq_true rfl) rfl ?_
  rintro Z rfl X Y
  refine r_iconst X (0 : Int32) dX2_sumDemands_0 (by decide) ?_
  refine r_istore_n [(0, .ref d), (1, .int (0 : Int32))] X dX2_sumDemands_1 rfl (by decide) rfl ?_
  refine r_iconst X (0 : Int32) dX2_sumDemands_2 (by decide) ?_
  refine r_istore_n [(0, .ref d), (1, .int (0 : Int32)), (2, .int (0 : Int32))] X dX2_sumDemands_3 rfl (by decide) rfl ?_
  refine loop_up (P := fun k1 => SW Z 4 [(0, .ref d), (1, .int (f_Day_sumDemands_L4 dem (0 : Int32) k1)), (2, .int (nI k1))] [] h) H ?_ ?_ 0 (Nat.zero_le _)
  rotate_left
  · intro k1 hk1 ih
    refine r_iload_n X 2 dX2_sumDemands_4 rfl ?_
    refine r_aload_n X 0 dX2_sumDemands_5 rfl ?_
    refine gf_X2_51 X dX2_sumDemands_6 (hv_d 0 _ rfl) rfl ?_
    refine r_icmp_ge X 27 dX2_sumDemands_9 rfl (fun z => absurd (nI_lt (a := k1) (b := H) (by omega) (by omega)) z) (fun _ => ?_)
    refine r_iload_n X 1 dX2_sumDemands_12 rfl ?_
    refine r_aload_n X 0 dX2_sumDemands_13 rfl ?_
    refine gf_X2_9 X dX2_sumDemands_14 (hv_d 0 _ rfl) rfl ?_
    refine r_iload_n X 2 dX2_sumDemands_17 rfl ?_
    refine r_ialdn X (k0 := k1) dX2_sumDemands_18 (hv_d 1 _ rfl) (by omega) (by decide) ?_
    refine r_iadd X dX2_sumDemands_19 ?_
    refine r_istore_n [(0, .ref d), (1, .int ((f_Day_sumDemands_L4 dem (0 : Int32) k1) + (dem k1))), (2, .int (nI k1))] X dX2_sumDemands_20 rfl (by decide) rfl ?_
    refine r_iinc [(0, .ref d), (1, .int ((f_Day_sumDemands_L4 dem (0 : Int32) k1) + (dem k1))), (2, .int (nI (k1 + 1)))] X (nI (k1 + 1)) 2 dX2_sumDemands_21 rfl (nI_succ _).symm (by decide) rfl ?_
    refine r_goto X 4 dX2_sumDemands_24 rfl ?_
    exact ih
  refine r_iload_n X 2 dX2_sumDemands_4 rfl ?_
  refine r_aload_n X 0 dX2_sumDemands_5 rfl ?_
  refine gf_X2_51 X dX2_sumDemands_6 (hv_d 0 _ rfl) rfl ?_
  refine r_icmp_ge X 27 dX2_sumDemands_9 rfl (fun _ => ?_) (fun z => absurd z (nI_nlt (a := H) (b := H) (by omega) (by omega)))
  refine r_iload_n X 1 dX2_sumDemands_27 rfl ?_
  try subst hf
  exact r_ireturn X Y dX2_sumDemands_28 rfl rfl

def f_Day_keeps_L33 (H : Nat) (ups : Nat → Int32) (dow : Nat → Int32) (n1 : Nat) (x2 : Int32) : Nat → Int32 → Int32 → Nat → (Int32 × Int32 × Nat) ⊕ (Int32)
  | 0, y3, y4, y5 => .inl (y3, y4, y5)
  | n + 1, y3, y4, y5 => (if (nI y5) < (nI H) then (if ((x2 >>> ((nI y5) &&& 31)) &&& (1 : Int32)) = (1 : Int32) then (if y3 = (0 : Int32) then (if y4 < (dow n1) then .inr (0 : Int32) else f_Day_keeps_L33 H ups dow n1 x2 n (y3 + (1 : Int32)) (0 : Int32) (y5 + 1)) else f_Day_keeps_L33 H ups dow n1 x2 n (y3 + (1 : Int32)) (0 : Int32) (y5 + 1)) else (if (0 : Int32) < y3 then (if y3 < (ups n1) then .inr (0 : Int32) else f_Day_keeps_L33 H ups dow n1 x2 n (0 : Int32) (y4 + (1 : Int32)) (y5 + 1)) else f_Day_keeps_L33 H ups dow n1 x2 n (0 : Int32) (y4 + (1 : Int32)) (y5 + 1))) else .inl (y3, y4, y5))
def f_Day_keeps (H : Nat) (kin : Nat → Int32) (ups : Nat → Int32) (dow : Nat → Int32) (u : Nat) (on : Int32) : Int32 := (if (kin u) = (5 : Int32) then if on = (f_Day_allHours H) then (1 : Int32) else (0 : Int32) else (match f_Day_keeps_L33 H ups dow u on (H + 1) (0 : Int32) (6 : Int32) 0 with | .inr r => r | .inl (y3, y4, y5) => (1 : Int32)))
set_option maxRecDepth 20000 in
set_option maxHeartbeats 4000000 in
theorem c_Day_keeps {G : mG} {h : mHp} {d : Nat} {H : Nat} {U : Nat} {res : Int32} {dem : Nat → Int32} {kin : Nat → Int32} {low : Nat → Int32} {hig : Nat → Int32} {pri : Nat → Int32} {sta : Nat → Int32} {ups : Nat → Int32} {dow : Nat → Int32} {onn : Nat → Int32} {ord : Nat → Nat} {flo : Nat → Int32} {sro : Nat → Int32} {sco : Nat → Int32} {u : Nat} {on : Int32} (hv_d : isV h d (dayL d H U res dem kin low hig pri sta ups dow onn ord flo sro sco))  (hH : H ≤ 6) (hu : u < 4) : Ret G 1 mX2_keeps [.ref d, .int (nI u), .int on] h (some (.int (f_Day_keeps H kin ups dow u on))) h := by
  generalize hf : f_Day_keeps H kin ups dow u on = R
  unfold f_Day_keeps at hf
  refine Ret.of [(0, .ref d), (1, .int (nI u)), (2, .int on)] (by decide) (Nat.le_of_ble_eq_true rfl) rfl ?_
  rintro Z rfl X Y
  refine r_aload_n X 0 dX2_keeps_0 rfl ?_
  refine gf_X2_15 X dX2_keeps_1 (hv_d 0 _ rfl) rfl ?_
  refine r_iload_n X 1 dX2_keeps_4 rfl ?_
  refine r_ialdn X (k0 := u) dX2_keeps_5 (hv_d 2 _ rfl) (by omega) (by decide) ?_
  refine r_iconst X (5 : Int32) dX2_keeps_6 (by decide) ?_
  refine r_icmp_ne X 24 dX2_keeps_7 rfl (fun c1 => ?_) (fun c1 => ?_)
  · rw [if_neg c1] at hf
    refine r_iconst X (0 : Int32) dX2_keeps_24 (by decide) ?_
    refine r_istore_n [(0, .ref d), (1, .int (nI u)), (2, .int on), (3, .int (0 : Int32))] X dX2_keeps_25 rfl (by decide) rfl ?_
    refine r_bipush X (6 : Int32) dX2_keeps_26 (by decide) ?_
    refine r_istore [(0, .ref d), (1, .int (nI u)), (2, .int on), (3, .int (0 : Int32)), (4, .int (6 : Int32))] X dX2_keeps_28 (by decide) rfl ?_
    refine r_iconst X (0 : Int32) dX2_keeps_30 (by decide) ?_
    refine r_istore [(0, .ref d), (1, .int (nI u)), (2, .int on), (3, .int (0 : Int32)), (4, .int (6 : Int32)), (5, .int (0 : Int32))] X dX2_keeps_31 (by decide) rfl ?_
    have wl7 : ∀ (n_ : Nat) (y3 : Int32) (y4 : Int32) (y5 : Nat), (y5 ≤ H) → (H - y5) < n_ → ∀ Rl, f_Day_keeps_L33 H ups dow u on n_ y3 y4 y5 = Rl → (∀ (y3 : Int32) (y4 : Int32) (y5 : Nat), Rl = .inl (y3, y4, y5) → (y5 ≤ H) → SW Z 105 [] [] h) → (∀ r, Rl = .inr r → R = r) → SW Z 33 [(0, .ref d), (1, .int (nI u)), (2, .int on), (3, .int y3), (4, .int y4), (5, .int (nI y5))] [] h := by
      intro n_
      induction n_ with
      | zero => intro y3 y4 y5 _ hm; exact absurd hm (Nat.not_lt_zero _)
      | succ n_ ih =>
        intro y3 y4 y5 hi hm Rl hf K Kr
        rw [f_Day_keeps_L33] at hf
        refine r_iload X 5 dX2_keeps_33 rfl ?_
        refine r_aload_n X 0 dX2_keeps_35 rfl ?_
        refine gf_X2_51 X dX2_keeps_36 (hv_d 0 _ rfl) rfl ?_
        refine r_icmp_ge X 105 dX2_keeps_39 rfl (fun ct33 => ?_) (fun ct33 => ?_)
        · rw [if_neg ct33] at hf
          refine SW.pick [] [] rfl ?_
          exact K _ _ _ hf.symm hi
        · rw [if_pos ct33] at hf
          have ht33 := nI_ltX ct33 (by omega) (by omega)
          refine r_iload_n X 2 dX2_keeps_42 rfl ?_
          refine r_iload X 5 dX2_keeps_43 rfl ?_
          refine r_ishr X dX2_keeps_45 ?_
          refine r_iconst X (1 : Int32) dX2_keeps_46 (by decide) ?_
          refine r_iand X dX2_keeps_47 ?_
          refine r_iconst X (1 : Int32) dX2_keeps_48 (by decide) ?_
          refine r_icmp_ne X 78 dX2_keeps_49 rfl (fun c8 => ?_) (fun c8 => ?_)
          · rw [if_neg c8] at hf
            refine r_iload_n X 3 dX2_keeps_78 rfl ?_
            refine r_if_le X 94 dX2_keeps_79 rfl (fun c9 => ?_) (fun c9 => ?_)
            · rw [if_neg c9] at hf
              refine r_iconst X (0 : Int32) dX2_keeps_94 (by decide) ?_
              refine r_istore_n [(0, .ref d), (1, .int (nI u)), (2, .int on), (3, .int (0 : Int32)), (4, .int y4), (5, .int (nI y5))] X dX2_keeps_95 rfl (by decide) rfl ?_
              refine r_iinc [(0, .ref d), (1, .int (nI u)), (2, .int on), (3, .int (0 : Int32)), (4, .int (y4 + (1 : Int32))), (5, .int (nI y5))] X (y4 + (1 : Int32)) 4 dX2_keeps_96 rfl rfl (by decide) rfl ?_
              refine r_iinc [(0, .ref d), (1, .int (nI u)), (2, .int on), (3, .int (0 : Int32)), (4, .int (y4 + (1 : Int32))), (5, .int (nI (y5 + 1)))] X (nI (y5 + 1)) 5 dX2_keeps_99 rfl (nI_succ _).symm (by decide) rfl ?_
              refine r_goto X 33 dX2_keeps_102 rfl ?_
              exact ih _ _ _ (by omega) (by omega) Rl hf K Kr
            · rw [if_pos c9] at hf
              refine r_iload_n X 3 dX2_keeps_82 rfl ?_
              refine r_aload_n X 0 dX2_keeps_83 rfl ?_
              refine gf_X2_30 X dX2_keeps_84 (hv_d 0 _ rfl) rfl ?_
              refine r_iload_n X 1 dX2_keeps_87 rfl ?_
              refine r_ialdn X (k0 := u) dX2_keeps_88 (hv_d 7 _ rfl) (by omega) (by decide) ?_
              refine r_icmp_ge X 94 dX2_keeps_89 rfl (fun c10 => ?_) (fun c10 => ?_)
              · rw [if_neg c10] at hf
                refine r_iconst X (0 : Int32) dX2_keeps_94 (by decide) ?_
                refine r_istore_n [(0, .ref d), (1, .int (nI u)), (2, .int on), (3, .int (0 : Int32)), (4, .int y4), (5, .int (nI y5))] X dX2_keeps_95 rfl (by decide) rfl ?_
                refine r_iinc [(0, .ref d), (1, .int (nI u)), (2, .int on), (3, .int (0 : Int32)), (4, .int (y4 + (1 : Int32))), (5, .int (nI y5))] X (y4 + (1 : Int32)) 4 dX2_keeps_96 rfl rfl (by decide) rfl ?_
                refine r_iinc [(0, .ref d), (1, .int (nI u)), (2, .int on), (3, .int (0 : Int32)), (4, .int (y4 + (1 : Int32))), (5, .int (nI (y5 + 1)))] X (nI (y5 + 1)) 5 dX2_keeps_99 rfl (nI_succ _).symm (by decide) rfl ?_
                refine r_goto X 33 dX2_keeps_102 rfl ?_
                exact ih _ _ _ (by omega) (by omega) Rl hf K Kr
              · rw [if_pos c10] at hf
                refine r_iconst X (0 : Int32) dX2_keeps_92 (by decide) ?_
                have hR := Kr _ hf.symm
                subst hR
                exact r_zreturn X Y dX2_keeps_93 (by (repeat' split) <;> first | exact Or.inl rfl | exact Or.inr rfl) rfl rfl
          · rw [if_pos c8] at hf
            refine r_iload_n X 3 dX2_keeps_52 rfl ?_
            refine r_if_ne X 69 dX2_keeps_53 rfl (fun c11 => ?_) (fun c11 => ?_)
            · rw [if_neg c11] at hf
              refine r_iinc [(0, .ref d), (1, .int (nI u)), (2, .int on), (3, .int (y3 + (1 : Int32))), (4, .int y4), (5, .int (nI y5))] X (y3 + (1 : Int32)) 3 dX2_keeps_69 rfl rfl (by decide) rfl ?_
              refine r_iconst X (0 : Int32) dX2_keeps_72 (by decide) ?_
              refine r_istore [(0, .ref d), (1, .int (nI u)), (2, .int on), (3, .int (y3 + (1 : Int32))), (4, .int (0 : Int32)), (5, .int (nI y5))] X dX2_keeps_73 (by decide) rfl ?_
              refine r_goto X 99 dX2_keeps_75 rfl ?_
              refine r_iinc [(0, .ref d), (1, .int (nI u)), (2, .int on), (3, .int (y3 + (1 : Int32))), (4, .int (0 : Int32)), (5, .int (nI (y5 + 1)))] X (nI (y5 + 1)) 5 dX2_keeps_99 rfl (nI_succ _).symm (by decide) rfl ?_
              refine r_goto X 33 dX2_keeps_102 rfl ?_
              exact ih _ _ _ (by omega) (by omega) Rl hf K Kr
            · rw [if_pos c11] at hf
              refine r_iload X 4 dX2_keeps_56 rfl ?_
              refine r_aload_n X 0 dX2_keeps_58 rfl ?_
              refine gf_X2_33 X dX2_keeps_59 (hv_d 0 _ rfl) rfl ?_
              refine r_iload_n X 1 dX2_keeps_62 rfl ?_
              refine r_ialdn X (k0 := u) dX2_keeps_63 (hv_d 8 _ rfl) (by omega) (by decide) ?_
              refine r_icmp_ge X 69 dX2_keeps_64 rfl (fun c12 => ?_) (fun c12 => ?_)
              · rw [if_neg c12] at hf
                refine r_iinc [(0, .ref d), (1, .int (nI u)), (2, .int on), (3, .int (y3 + (1 : Int32))), (4, .int y4), (5, .int (nI y5))] X (y3 + (1 : Int32)) 3 dX2_keeps_69 rfl rfl (by decide) rfl ?_
                refine r_iconst X (0 : Int32) dX2_keeps_72 (by decide) ?_
                refine r_istore [(0, .ref d), (1, .int (nI u)), (2, .int on), (3, .int (y3 + (1 : Int32))), (4, .int (0 : Int32)), (5, .int (nI y5))] X dX2_keeps_73 (by decide) rfl ?_
                refine r_goto X 99 dX2_keeps_75 rfl ?_
                refine r_iinc [(0, .ref d), (1, .int (nI u)), (2, .int on), (3, .int (y3 + (1 : Int32))), (4, .int (0 : Int32)), (5, .int (nI (y5 + 1)))] X (nI (y5 + 1)) 5 dX2_keeps_99 rfl (nI_succ _).symm (by decide) rfl ?_
                refine r_goto X 33 dX2_keeps_102 rfl ?_
                exact ih _ _ _ (by omega) (by omega) Rl hf K Kr
              · rw [if_pos c12] at hf
                refine r_iconst X (0 : Int32) dX2_keeps_67 (by decide) ?_
                have hR := Kr _ hf.symm
                subst hR
                exact r_zreturn X Y dX2_keeps_68 (by (repeat' split) <;> first | exact Or.inl rfl | exact Or.inr rfl) rfl rfl
    refine wl7 (H + 1) (0 : Int32) (6 : Int32) 0 (by first | trivial | assumption | omega) (by omega) _ rfl (fun y3 y4 y5 hl hi => ?_) (fun r hl => ?_)
    rotate_left
    · rw [hl] at hf; exact hf.symm
    rw [hl] at hf
    try dsimp only at hf
    refine r_iconst X (1 : Int32) dX2_keeps_105 (by decide) ?_
    try subst hf
    exact r_zreturn X Y dX2_keeps_106 (by (repeat' split) <;> first | exact Or.inl rfl | exact Or.inr rfl) rfl rfl
  · rw [if_pos c1] at hf
    refine r_iload_n X 2 dX2_keeps_10 rfl ?_
    refine r_aload_n X 0 dX2_keeps_11 rfl ?_
    refine cl_X2_73 X (by decide) dX2_keeps_12 (Nat.le_of_ble_eq_true rfl) (hv_d 0 _ rfl) (c_Day_allHours hv_d ) ?_
    refine m_join (P := SW Z 23 [] [.int (if on = (f_Day_allHours H) then (1 : Int32) else (0 : Int32))] h) (fun K => ?_) ?_
    · refine r_icmp_ne X 22 dX2_keeps_15 rfl (fun c13 => ?_) (fun c13 => ?_)
      · skip
        refine r_iconst X (0 : Int32) dX2_keeps_22 (by decide) ?_
        refine SW.pick [] [] rfl ?_
        try simp only [if_neg c13] at K ⊢
        exact K
      · skip
        refine r_iconst X (1 : Int32) dX2_keeps_18 (by decide) ?_
        refine r_goto X 23 dX2_keeps_19 rfl ?_
        refine SW.pick [] [] rfl ?_
        try simp only [if_pos c13] at K ⊢
        exact K
    try subst hf
    exact r_zreturn X Y dX2_keeps_23 (by (repeat' split) <;> first | exact Or.inl rfl | exact Or.inr rfl) rfl rfl

def f_Day_unitsAmong_L5s (onn : Nat → Int32) (x1 : Int32) (x2 : Int32) (k5 : Nat) (x3 : Int32) : Int32 := x3 ||| ((((if x2 = (0 : Int32) then onn k5 else (f_startsAmong (onn k5))) >>> (x1 &&& 31)) &&& (1 : Int32)) <<< ((nI k5) &&& 31))
def f_Day_unitsAmong_L5 (onn : Nat → Int32) (x1 : Int32) (x2 : Int32) (x3 : Int32) : Nat → Int32
  | 0 => x3
  | k5 + 1 => f_Day_unitsAmong_L5s onn x1 x2 k5 (f_Day_unitsAmong_L5 onn x1 x2 x3 k5)
def f_Day_unitsAmong (U : Nat) (onn : Nat → Int32) (hh : Int32) (w : Int32) : Int32 := (f_Day_unitsAmong_L5 onn hh w (0 : Int32) U)
set_option maxRecDepth 20000 in
set_option maxHeartbeats 4000000 in
theorem c_Day_unitsAmong {G : mG} {h : mHp} {d : Nat} {H : Nat} {U : Nat} {res : Int32} {dem : Nat → Int32} {kin : Nat → Int32} {low : Nat → Int32} {hig : Nat → Int32} {pri : Nat → Int32} {sta : Nat → Int32} {ups : Nat → Int32} {dow : Nat → Int32} {onn : Nat → Int32} {ord : Nat → Nat} {flo : Nat → Int32} {sro : Nat → Int32} {sco : Nat → Int32} {hh : Int32} {w : Int32} (hv_d : isV h d (dayL d H U res dem kin low hig pri sta ups dow onn ord flo sro sco))  (hU : U ≤ 4) : Ret G 1 mX2_unitsAmong [.ref d, .int hh, .int w] h (some (.int (f_Day_unitsAmong U onn hh w))) h := by
  generalize hf : f_Day_unitsAmong U onn hh w = R
  unfold f_Day_unitsAmong at hf
  refine Ret.of [(0, .ref d), (1, .int hh), (2, .int w)] (by decide) (Nat.le_of_ble_eq_true rfl) rfl ?_
  rintro Z rfl X Y
  refine r_iconst X (0 : Int32) dX2_unitsAmong_0 (by decide) ?_
  refine r_istore_n [(0, .ref d), (1, .int hh), (2, .int w), (3, .int (0 : Int32))] X dX2_unitsAmong_1 rfl (by decide) rfl ?_
  refine r_iconst X (0 : Int32) dX2_unitsAmong_2 (by decide) ?_
  refine r_istore [(0, .ref d), (1, .int hh), (2, .int w), (3, .int (0 : Int32)), (4, .int (0 : Int32))] X dX2_unitsAmong_3 (by decide) rfl ?_
  refine loop_up (P := fun k2 => SW Z 5 [(0, .ref d), (1, .int hh), (2, .int w), (3, .int (f_Day_unitsAmong_L5 onn hh w (0 : Int32) k2)), (4, .int (nI k2))] [] h) U ?_ ?_ 0 (Nat.zero_le _)
  rotate_left
  · intro k2 hk2 ih
    refine r_iload X 4 dX2_unitsAmong_5 rfl ?_
    refine r_aload_n X 0 dX2_unitsAmong_7 rfl ?_
    refine gf_X2_55 X dX2_unitsAmong_8 (hv_d 0 _ rfl) rfl ?_
    refine r_icmp_ge X 58 dX2_unitsAmong_11 rfl (fun z => absurd (nI_lt (a := k2) (b := U) (by omega) (by omega)) z) (fun _ => ?_)
    refine r_iload_n X 2 dX2_unitsAmong_14 rfl ?_
    refine m_join (P := SW Z 38 [(0, .ref d), (1, .int hh), (2, .int w), (3, .int (f_Day_unitsAmong_L5 onn hh w (0 : Int32) k2)), (4, .int (nI k2))] [.int (if w = (0 : Int32) then onn k2 else (f_startsAmong (onn k2)))] h) (fun K => ?_) ?_
    · refine r_if_eq X 31 dX2_unitsAmong_15 rfl (fun c3 => ?_) (fun c3 => ?_)
      · skip
        refine r_aload_n X 0 dX2_unitsAmong_31 rfl ?_
        refine gf_X2_36 X dX2_unitsAmong_32 (hv_d 0 _ rfl) rfl ?_
        refine r_iload X 4 dX2_unitsAmong_35 rfl ?_
        refine r_ialdn X (k0 := k2) dX2_unitsAmong_37 (hv_d 9 _ rfl) (by omega) (by decide) ?_
        try simp only [if_pos c3] at K ⊢
        exact K
      · skip
        refine r_aload_n X 0 dX2_unitsAmong_18 rfl ?_
        refine gf_X2_36 X dX2_unitsAmong_19 (hv_d 0 _ rfl) rfl ?_
        refine r_iload X 4 dX2_unitsAmong_22 rfl ?_
        refine r_ialdn X (k0 := k2) dX2_unitsAmong_24 (hv_d 9 _ rfl) (by omega) (by decide) ?_
        refine cl_X2_81 X (by decide) dX2_unitsAmong_25 (Nat.le_of_ble_eq_true rfl) (c_startsAmong  ) ?_
        refine r_goto X 38 dX2_unitsAmong_28 rfl ?_
        try simp only [if_neg c3] at K ⊢
        exact K
    refine r_istore [(0, .ref d), (1, .int hh), (2, .int w), (3, .int (f_Day_unitsAmong_L5 onn hh w (0 : Int32) k2)), (4, .int (nI k2)), (5, .int (if w = (0 : Int32) then onn k2 else (f_startsAmong (onn k2))))] X dX2_unitsAmong_38 (by decide) rfl ?_
    refine r_iload_n X 3 dX2_unitsAmong_40 rfl ?_
    refine r_iload X 5 dX2_unitsAmong_41 rfl ?_
    refine r_iload_n X 1 dX2_unitsAmong_43 rfl ?_
    refine r_ishr X dX2_unitsAmong_44 ?_
    refine r_iconst X (1 : Int32) dX2_unitsAmong_45 (by decide) ?_
    refine r_iand X dX2_unitsAmong_46 ?_
    refine r_iload X 4 dX2_unitsAmong_47 rfl ?_
    refine r_ishl X dX2_unitsAmong_49 ?_
    refine r_ior X dX2_unitsAmong_50 ?_
    refine r_istore_n [(0, .ref d), (1, .int hh), (2, .int w), (3, .int ((f_Day_unitsAmong_L5 onn hh w (0 : Int32) k2) ||| ((((if w = (0 : Int32) then onn k2 else (f_startsAmong (onn k2))) >>> (hh &&& 31)) &&& (1 : Int32)) <<< ((nI k2) &&& 31)))), (4, .int (nI k2)), (5, .int (if w = (0 : Int32) then onn k2 else (f_startsAmong (onn k2))))] X dX2_unitsAmong_51 rfl (by decide) rfl ?_
    refine r_iinc [(0, .ref d), (1, .int hh), (2, .int w), (3, .int ((f_Day_unitsAmong_L5 onn hh w (0 : Int32) k2) ||| ((((if w = (0 : Int32) then onn k2 else (f_startsAmong (onn k2))) >>> (hh &&& 31)) &&& (1 : Int32)) <<< ((nI k2) &&& 31)))), (4, .int (nI (k2 + 1))), (5, .int (if w = (0 : Int32) then onn k2 else (f_startsAmong (onn k2))))] X (nI (k2 + 1)) 4 dX2_unitsAmong_52 rfl (nI_succ _).symm (by decide) rfl ?_
    refine r_goto X 5 dX2_unitsAmong_55 rfl ?_
    refine SW.pick [0, 1, 2, 3, 4] [(0, .ref d), (1, .int hh), (2, .int w), (3, .int ((f_Day_unitsAmong_L5 onn hh w (0 : Int32) k2) ||| ((((if w = (0 : Int32) then onn k2 else (f_startsAmong (onn k2))) >>> (hh &&& 31)) &&& (1 : Int32)) <<< ((nI k2) &&& 31)))), (4, .int (nI (k2 + 1)))] rfl ?_
    exact ih
  refine r_iload X 4 dX2_unitsAmong_5 rfl ?_
  refine r_aload_n X 0 dX2_unitsAmong_7 rfl ?_
  refine gf_X2_55 X dX2_unitsAmong_8 (hv_d 0 _ rfl) rfl ?_
  refine r_icmp_ge X 58 dX2_unitsAmong_11 rfl (fun _ => ?_) (fun z => absurd z (nI_nlt (a := U) (b := U) (by omega) (by omega)))
  refine r_iload_n X 3 dX2_unitsAmong_58 rfl ?_
  try subst hf
  exact r_ireturn X Y dX2_unitsAmong_59 rfl rfl

def f_Day_unitsOn (U : Nat) (onn : Nat → Int32) (hh : Int32) : Int32 := (f_Day_unitsAmong U onn hh (0 : Int32))
set_option maxRecDepth 20000 in
set_option maxHeartbeats 4000000 in
theorem c_Day_unitsOn {G : mG} {h : mHp} {d : Nat} {H : Nat} {U : Nat} {res : Int32} {dem : Nat → Int32} {kin : Nat → Int32} {low : Nat → Int32} {hig : Nat → Int32} {pri : Nat → Int32} {sta : Nat → Int32} {ups : Nat → Int32} {dow : Nat → Int32} {onn : Nat → Int32} {ord : Nat → Nat} {flo : Nat → Int32} {sro : Nat → Int32} {sco : Nat → Int32} {hh : Int32} (hv_d : isV h d (dayL d H U res dem kin low hig pri sta ups dow onn ord flo sro sco))  (hU : U ≤ 4) : Ret G 2 mX2_unitsOn [.ref d, .int hh] h (some (.int (f_Day_unitsOn U onn hh))) h := by
  generalize hf : f_Day_unitsOn U onn hh = R
  unfold f_Day_unitsOn at hf
  refine Ret.of [(0, .ref d), (1, .int hh)] (by decide) (Nat.le_of_ble_eq_true rfl) rfl ?_
  rintro Z rfl X Y
  refine r_aload_n X 0 dX2_unitsOn_0 rfl ?_
  refine r_iload_n X 1 dX2_unitsOn_1 rfl ?_
  refine r_iconst X (0 : Int32) dX2_unitsOn_2 (by decide) ?_
  refine cl_X2_77 X (by decide) dX2_unitsOn_3 (Nat.le_of_ble_eq_true rfl) (hv_d 0 _ rfl) (c_Day_unitsAmong hv_d (by first | assumption | omega)) ?_
  try subst hf
  exact r_ireturn X Y dX2_unitsOn_6 rfl rfl

def f_Day_unitsStarting (U : Nat) (onn : Nat → Int32) (hh : Int32) : Int32 := (f_Day_unitsAmong U onn hh (1 : Int32))
set_option maxRecDepth 20000 in
set_option maxHeartbeats 4000000 in
theorem c_Day_unitsStarting {G : mG} {h : mHp} {d : Nat} {H : Nat} {U : Nat} {res : Int32} {dem : Nat → Int32} {kin : Nat → Int32} {low : Nat → Int32} {hig : Nat → Int32} {pri : Nat → Int32} {sta : Nat → Int32} {ups : Nat → Int32} {dow : Nat → Int32} {onn : Nat → Int32} {ord : Nat → Nat} {flo : Nat → Int32} {sro : Nat → Int32} {sco : Nat → Int32} {hh : Int32} (hv_d : isV h d (dayL d H U res dem kin low hig pri sta ups dow onn ord flo sro sco))  (hU : U ≤ 4) : Ret G 2 mX2_unitsStarting [.ref d, .int hh] h (some (.int (f_Day_unitsStarting U onn hh))) h := by
  generalize hf : f_Day_unitsStarting U onn hh = R
  unfold f_Day_unitsStarting at hf
  refine Ret.of [(0, .ref d), (1, .int hh)] (by decide) (Nat.le_of_ble_eq_true rfl) rfl ?_
  rintro Z rfl X Y
  refine r_aload_n X 0 dX2_unitsStarting_0 rfl ?_
  refine r_iload_n X 1 dX2_unitsStarting_1 rfl ?_
  refine r_iconst X (1 : Int32) dX2_unitsStarting_2 (by decide) ?_
  refine cl_X2_77 X (by decide) dX2_unitsStarting_3 (Nat.le_of_ble_eq_true rfl) (hv_d 0 _ rfl) (c_Day_unitsAmong hv_d (by first | assumption | omega)) ?_
  try subst hf
  exact r_ireturn X Y dX2_unitsStarting_6 rfl rfl

def f_Day_floorsOf_L4s (flo : Nat → Int32) (x1 : Int32) (k4 : Nat) (x2 : Int32) : Int32 := if ((x1 >>> ((nI k4) &&& 31)) &&& (1 : Int32)) = (1 : Int32) then x2 + (flo k4) else x2
def f_Day_floorsOf_L4 (flo : Nat → Int32) (x1 : Int32) (x2 : Int32) : Nat → Int32
  | 0 => x2
  | k4 + 1 => f_Day_floorsOf_L4s flo x1 k4 (f_Day_floorsOf_L4 flo x1 x2 k4)
def f_Day_floorsOf (U : Nat) (flo : Nat → Int32) (on : Int32) : Int32 := (f_Day_floorsOf_L4 flo on (0 : Int32) U)
set_option maxRecDepth 20000 in
set_option maxHeartbeats 4000000 in
theorem c_Day_floorsOf {G : mG} {h : mHp} {d : Nat} {H : Nat} {U : Nat} {res : Int32} {dem : Nat → Int32} {kin : Nat → Int32} {low : Nat → Int32} {hig : Nat → Int32} {pri : Nat → Int32} {sta : Nat → Int32} {ups : Nat → Int32} {dow : Nat → Int32} {onn : Nat → Int32} {ord : Nat → Nat} {flo : Nat → Int32} {sro : Nat → Int32} {sco : Nat → Int32} {on : Int32} (hv_d : isV h d (dayL d H U res dem kin low hig pri sta ups dow onn ord flo sro sco))  (hU : U ≤ 4) : Ret G 0 mX2_floorsOf [.ref d, .int on] h (some (.int (f_Day_floorsOf U flo on))) h := by
  generalize hf : f_Day_floorsOf U flo on = R
  unfold f_Day_floorsOf at hf
  refine Ret.of [(0, .ref d), (1, .int on)] (by decide) (Nat.le_of_ble_eq_true rfl) rfl ?_
  rintro Z rfl X Y
  refine r_iconst X (0 : Int32) dX2_floorsOf_0 (by decide) ?_
  refine r_istore_n [(0, .ref d), (1, .int on), (2, .int (0 : Int32))] X dX2_floorsOf_1 rfl (by decide) rfl ?_
  refine r_iconst X (0 : Int32) dX2_floorsOf_2 (by decide) ?_
  refine r_istore_n [(0, .ref d), (1, .int on), (2, .int (0 : Int32)), (3, .int (0 : Int32))] X dX2_floorsOf_3 rfl (by decide) rfl ?_
  refine loop_up (P := fun k2 => SW Z 4 [(0, .ref d), (1, .int on), (2, .int (f_Day_floorsOf_L4 flo on (0 : Int32) k2)), (3, .int (nI k2))] [] h) U ?_ ?_ 0 (Nat.zero_le _)
  rotate_left
  · intro k2 hk2 ih
    refine r_iload_n X 3 dX2_floorsOf_4 rfl ?_
    refine r_aload_n X 0 dX2_floorsOf_5 rfl ?_
    refine gf_X2_55 X dX2_floorsOf_6 (hv_d 0 _ rfl) rfl ?_
    refine r_icmp_ge X 36 dX2_floorsOf_9 rfl (fun z => absurd (nI_lt (a := k2) (b := U) (by omega) (by omega)) z) (fun _ => ?_)
    refine r_iload_n X 1 dX2_floorsOf_12 rfl ?_
    refine r_iload_n X 3 dX2_floorsOf_13 rfl ?_
    refine r_ishr X dX2_floorsOf_14 ?_
    refine r_iconst X (1 : Int32) dX2_floorsOf_15 (by decide) ?_
    refine r_iand X dX2_floorsOf_16 ?_
    refine r_iconst X (1 : Int32) dX2_floorsOf_17 (by decide) ?_
    refine m_join (P := SW Z 30 [(0, .ref d), (1, .int on), (2, .int (if ((on >>> ((nI k2) &&& 31)) &&& (1 : Int32)) = (1 : Int32) then (f_Day_floorsOf_L4 flo on (0 : Int32) k2) + (flo k2) else (f_Day_floorsOf_L4 flo on (0 : Int32) k2))), (3, .int (nI k2))] [] h) (fun K => ?_) ?_
    · refine r_icmp_ne X 30 dX2_floorsOf_18 rfl (fun c3 => ?_) (fun c3 => ?_)
      · skip
        try simp only [if_neg c3] at K ⊢
        exact K
      · skip
        refine r_iload_n X 2 dX2_floorsOf_21 rfl ?_
        refine r_aload_n X 0 dX2_floorsOf_22 rfl ?_
        refine gf_X2_42 X dX2_floorsOf_23 (hv_d 0 _ rfl) rfl ?_
        refine r_iload_n X 3 dX2_floorsOf_26 rfl ?_
        refine r_ialdn X (k0 := k2) dX2_floorsOf_27 (hv_d 11 _ rfl) (by omega) (by decide) ?_
        refine r_iadd X dX2_floorsOf_28 ?_
        refine r_istore_n [(0, .ref d), (1, .int on), (2, .int ((f_Day_floorsOf_L4 flo on (0 : Int32) k2) + (flo k2))), (3, .int (nI k2))] X dX2_floorsOf_29 rfl (by decide) rfl ?_
        try simp only [if_pos c3] at K ⊢
        exact K
    refine r_iinc [(0, .ref d), (1, .int on), (2, .int (if ((on >>> ((nI k2) &&& 31)) &&& (1 : Int32)) = (1 : Int32) then (f_Day_floorsOf_L4 flo on (0 : Int32) k2) + (flo k2) else (f_Day_floorsOf_L4 flo on (0 : Int32) k2))), (3, .int (nI (k2 + 1)))] X (nI (k2 + 1)) 3 dX2_floorsOf_30 rfl (nI_succ _).symm (by decide) rfl ?_
    refine r_goto X 4 dX2_floorsOf_33 rfl ?_
    exact ih
  refine r_iload_n X 3 dX2_floorsOf_4 rfl ?_
  refine r_aload_n X 0 dX2_floorsOf_5 rfl ?_
  refine gf_X2_55 X dX2_floorsOf_6 (hv_d 0 _ rfl) rfl ?_
  refine r_icmp_ge X 36 dX2_floorsOf_9 rfl (fun _ => ?_) (fun z => absurd z (nI_nlt (a := U) (b := U) (by omega) (by omega)))
  refine r_iload_n X 2 dX2_floorsOf_36 rfl ?_
  try subst hf
  exact r_ireturn X Y dX2_floorsOf_37 rfl rfl

def f_Day_roofsOf_L5s (hig : Nat → Int32) (sro : Nat → Int32) (x1 : Int32) (x2 : Int32) (k5 : Nat) (x3 : Int32) : Int32 := if ((x1 >>> ((nI k5) &&& 31)) &&& (1 : Int32)) = (1 : Int32) then x3 + (if ((x2 >>> ((nI k5) &&& 31)) &&& (1 : Int32)) = (1 : Int32) then sro k5 else hig k5) else x3
def f_Day_roofsOf_L5 (hig : Nat → Int32) (sro : Nat → Int32) (x1 : Int32) (x2 : Int32) (x3 : Int32) : Nat → Int32
  | 0 => x3
  | k5 + 1 => f_Day_roofsOf_L5s hig sro x1 x2 k5 (f_Day_roofsOf_L5 hig sro x1 x2 x3 k5)
def f_Day_roofsOf (U : Nat) (hig : Nat → Int32) (sro : Nat → Int32) (on : Int32) (st : Int32) : Int32 := (f_Day_roofsOf_L5 hig sro on st (0 : Int32) U)
set_option maxRecDepth 20000 in
set_option maxHeartbeats 4000000 in
theorem c_Day_roofsOf {G : mG} {h : mHp} {d : Nat} {H : Nat} {U : Nat} {res : Int32} {dem : Nat → Int32} {kin : Nat → Int32} {low : Nat → Int32} {hig : Nat → Int32} {pri : Nat → Int32} {sta : Nat → Int32} {ups : Nat → Int32} {dow : Nat → Int32} {onn : Nat → Int32} {ord : Nat → Nat} {flo : Nat → Int32} {sro : Nat → Int32} {sco : Nat → Int32} {on : Int32} {st : Int32} (hv_d : isV h d (dayL d H U res dem kin low hig pri sta ups dow onn ord flo sro sco))  (hU : U ≤ 4) : Ret G 0 mX2_roofsOf [.ref d, .int on, .int st] h (some (.int (f_Day_roofsOf U hig sro on st))) h := by
  generalize hf : f_Day_roofsOf U hig sro on st = R
  unfold f_Day_roofsOf at hf
  refine Ret.of [(0, .ref d), (1, .int on), (2, .int st)] (by decide) (Nat.le_of_ble_eq_true rfl) rfl ?_
  rintro Z rfl X Y
  refine r_iconst X (0 : Int32) dX2_roofsOf_0 (by decide) ?_
  refine r_istore_n [(0, .ref d), (1, .int on), (2, .int st), (3, .int (0 : Int32))] X dX2_roofsOf_1 rfl (by decide) rfl ?_
  refine r_iconst X (0 : Int32) dX2_roofsOf_2 (by decide) ?_
  refine r_istore [(0, .ref d), (1, .int on), (2, .int st), (3, .int (0 : Int32)), (4, .int (0 : Int32))] X dX2_roofsOf_3 (by decide) rfl ?_
  refine loop_up (P := fun k3 => SW Z 5 [(0, .ref d), (1, .int on), (2, .int st), (3, .int (f_Day_roofsOf_L5 hig sro on st (0 : Int32) k3)), (4, .int (nI k3))] [] h) U ?_ ?_ 0 (Nat.zero_le _)
  rotate_left
  · intro k3 hk3 ih
    refine r_iload X 4 dX2_roofsOf_5 rfl ?_
    refine r_aload_n X 0 dX2_roofsOf_7 rfl ?_
    refine gf_X2_55 X dX2_roofsOf_8 (hv_d 0 _ rfl) rfl ?_
    refine r_icmp_ge X 60 dX2_roofsOf_11 rfl (fun z => absurd (nI_lt (a := k3) (b := U) (by omega) (by omega)) z) (fun _ => ?_)
    refine r_iload_n X 1 dX2_roofsOf_14 rfl ?_
    refine r_iload X 4 dX2_roofsOf_15 rfl ?_
    refine r_ishr X dX2_roofsOf_17 ?_
    refine r_iconst X (1 : Int32) dX2_roofsOf_18 (by decide) ?_
    refine r_iand X dX2_roofsOf_19 ?_
    refine r_iconst X (1 : Int32) dX2_roofsOf_20 (by decide) ?_
    refine m_join (P := SW Z 54 [(0, .ref d), (1, .int on), (2, .int st), (3, .int (if ((on >>> ((nI k3) &&& 31)) &&& (1 : Int32)) = (1 : Int32) then (f_Day_roofsOf_L5 hig sro on st (0 : Int32) k3) + (if ((st >>> ((nI k3) &&& 31)) &&& (1 : Int32)) = (1 : Int32) then sro k3 else hig k3) else (f_Day_roofsOf_L5 hig sro on st (0 : Int32) k3))), (4, .int (nI k3))] [] h) (fun K => ?_) ?_
    · refine r_icmp_ne X 54 dX2_roofsOf_21 rfl (fun c4 => ?_) (fun c4 => ?_)
      · skip
        try simp only [if_neg c4] at K ⊢
        exact K
      · skip
        refine r_iload_n X 3 dX2_roofsOf_24 rfl ?_
        refine r_iload_n X 2 dX2_roofsOf_25 rfl ?_
        refine r_iload X 4 dX2_roofsOf_26 rfl ?_
        refine r_ishr X dX2_roofsOf_28 ?_
        refine r_iconst X (1 : Int32) dX2_roofsOf_29 (by decide) ?_
        refine r_iand X dX2_roofsOf_30 ?_
        refine r_iconst X (1 : Int32) dX2_roofsOf_31 (by decide) ?_
        refine m_join (P := SW Z 52 [(0, .ref d), (1, .int on), (2, .int st), (4, .int (nI k3))] [.int (if ((st >>> ((nI k3) &&& 31)) &&& (1 : Int32)) = (1 : Int32) then sro k3 else hig k3), .int (f_Day_roofsOf_L5 hig sro on st (0 : Int32) k3)] h) (fun K => ?_) ?_
        · refine r_icmp_ne X 45 dX2_roofsOf_32 rfl (fun c5 => ?_) (fun c5 => ?_)
          · skip
            refine r_aload_n X 0 dX2_roofsOf_45 rfl ?_
            refine gf_X2_21 X dX2_roofsOf_46 (hv_d 0 _ rfl) rfl ?_
            refine r_iload X 4 dX2_roofsOf_49 rfl ?_
            refine r_ialdn X (k0 := k3) dX2_roofsOf_51 (hv_d 4 _ rfl) (by omega) (by decide) ?_
            refine SW.pick [0, 1, 2, 4] [(0, .ref d), (1, .int on), (2, .int st), (4, .int (nI k3))] rfl ?_
            try simp only [if_neg c5] at K ⊢
            exact K
          · skip
            refine r_aload_n X 0 dX2_roofsOf_35 rfl ?_
            refine gf_X2_45 X dX2_roofsOf_36 (hv_d 0 _ rfl) rfl ?_
            refine r_iload X 4 dX2_roofsOf_39 rfl ?_
            refine r_ialdn X (k0 := k3) dX2_roofsOf_41 (hv_d 12 _ rfl) (by omega) (by decide) ?_
            refine r_goto X 52 dX2_roofsOf_42 rfl ?_
            refine SW.pick [0, 1, 2, 4] [(0, .ref d), (1, .int on), (2, .int st), (4, .int (nI k3))] rfl ?_
            try simp only [if_pos c5] at K ⊢
            exact K
        refine r_iadd X dX2_roofsOf_52 ?_
        refine r_istore_n [(0, .ref d), (1, .int on), (2, .int st), (3, .int ((f_Day_roofsOf_L5 hig sro on st (0 : Int32) k3) + (if ((st >>> ((nI k3) &&& 31)) &&& (1 : Int32)) = (1 : Int32) then sro k3 else hig k3))), (4, .int (nI k3))] X dX2_roofsOf_53 rfl (by decide) rfl ?_
        try simp only [if_pos c4] at K ⊢
        exact K
    refine r_iinc [(0, .ref d), (1, .int on), (2, .int st), (3, .int (if ((on >>> ((nI k3) &&& 31)) &&& (1 : Int32)) = (1 : Int32) then (f_Day_roofsOf_L5 hig sro on st (0 : Int32) k3) + (if ((st >>> ((nI k3) &&& 31)) &&& (1 : Int32)) = (1 : Int32) then sro k3 else hig k3) else (f_Day_roofsOf_L5 hig sro on st (0 : Int32) k3))), (4, .int (nI (k3 + 1)))] X (nI (k3 + 1)) 4 dX2_roofsOf_54 rfl (nI_succ _).symm (by decide) rfl ?_
    refine r_goto X 5 dX2_roofsOf_57 rfl ?_
    exact ih
  refine r_iload X 4 dX2_roofsOf_5 rfl ?_
  refine r_aload_n X 0 dX2_roofsOf_7 rfl ?_
  refine gf_X2_55 X dX2_roofsOf_8 (hv_d 0 _ rfl) rfl ?_
  refine r_icmp_ge X 60 dX2_roofsOf_11 rfl (fun _ => ?_) (fun z => absurd z (nI_nlt (a := U) (b := U) (by omega) (by omega)))
  refine r_iload_n X 3 dX2_roofsOf_60 rfl ?_
  try subst hf
  exact r_ireturn X Y dX2_roofsOf_61 rfl rfl

def f_Day_isMet (U : Nat) (res : Int32) (hig : Nat → Int32) (flo : Nat → Int32) (sro : Nat → Int32) (de : Int32) (on : Int32) (st : Int32) : Int32 := if de < (f_Day_floorsOf U flo on) then (0 : Int32) else if (f_Day_roofsOf U hig sro on st) < (de + res) then (0 : Int32) else (1 : Int32)
set_option maxRecDepth 20000 in
set_option maxHeartbeats 4000000 in
theorem c_Day_isMet {G : mG} {h : mHp} {d : Nat} {H : Nat} {U : Nat} {res : Int32} {dem : Nat → Int32} {kin : Nat → Int32} {low : Nat → Int32} {hig : Nat → Int32} {pri : Nat → Int32} {sta : Nat → Int32} {ups : Nat → Int32} {dow : Nat → Int32} {onn : Nat → Int32} {ord : Nat → Nat} {flo : Nat → Int32} {sro : Nat → Int32} {sco : Nat → Int32} {de : Int32} {on : Int32} {st : Int32} (hv_d : isV h d (dayL d H U res dem kin low hig pri sta ups dow onn ord flo sro sco))  (hU : U ≤ 4) : Ret G 1 mX2_isMet [.ref d, .int de, .int on, .int st] h (some (.int (f_Day_isMet U res hig flo sro de on st))) h := by
  generalize hf : f_Day_isMet U res hig flo sro de on st = R
  unfold f_Day_isMet at hf
  refine Ret.of [(0, .ref d), (1, .int de), (2, .int on), (3, .int st)] (by decide) (Nat.le_of_ble_eq_true rfl) rfl ?_
  rintro Z rfl X Y
  refine r_aload_n X 0 dX2_isMet_0 rfl ?_
  refine r_iload_n X 2 dX2_isMet_1 rfl ?_
  refine cl_X2_85 X (by decide) dX2_isMet_2 (Nat.le_of_ble_eq_true rfl) (hv_d 0 _ rfl) (c_Day_floorsOf hv_d (by first | assumption | omega)) ?_
  refine r_iload_n X 1 dX2_isMet_5 rfl ?_
  refine m_join (P := SW Z 29 [] [.int (if de < (f_Day_floorsOf U flo on) then (0 : Int32) else if (f_Day_roofsOf U hig sro on st) < (de + res) then (0 : Int32) else (1 : Int32))] h) (fun K => ?_) ?_
  · refine r_icmp_gt X 28 dX2_isMet_6 rfl (fun c1 => ?_) (fun c1 => ?_)
    · skip
      refine r_iconst X (0 : Int32) dX2_isMet_28 (by decide) ?_
      refine SW.pick [] [] rfl ?_
      try simp only [if_pos c1] at K ⊢
      exact K
    · skip
      refine r_aload_n X 0 dX2_isMet_9 rfl ?_
      refine r_iload_n X 2 dX2_isMet_10 rfl ?_
      refine r_iload_n X 3 dX2_isMet_11 rfl ?_
      refine cl_X2_88 X (by decide) dX2_isMet_12 (Nat.le_of_ble_eq_true rfl) (hv_d 0 _ rfl) (c_Day_roofsOf hv_d (by first | assumption | omega)) ?_
      refine r_iload_n X 1 dX2_isMet_15 rfl ?_
      refine r_aload_n X 0 dX2_isMet_16 rfl ?_
      refine gf_X2_58 X dX2_isMet_17 (hv_d 0 _ rfl) rfl ?_
      refine r_iadd X dX2_isMet_20 ?_
      refine m_join (P := SW Z 29 [] [.int (if (f_Day_roofsOf U hig sro on st) < (de + res) then (0 : Int32) else (1 : Int32))] h) (fun K => ?_) ?_
      · refine r_icmp_lt X 28 dX2_isMet_21 rfl (fun c2 => ?_) (fun c2 => ?_)
        · skip
          refine r_iconst X (0 : Int32) dX2_isMet_28 (by decide) ?_
          refine SW.pick [] [] rfl ?_
          try simp only [if_pos c2] at K ⊢
          exact K
        · skip
          refine r_iconst X (1 : Int32) dX2_isMet_24 (by decide) ?_
          refine r_goto X 29 dX2_isMet_25 rfl ?_
          refine SW.pick [] [] rfl ?_
          try simp only [if_neg c2] at K ⊢
          exact K
      try simp only [if_neg c1] at K ⊢
      exact K
  try subst hf
  exact r_zreturn X Y dX2_isMet_29 (by (repeat' split) <;> first | exact Or.inl rfl | exact Or.inr rfl) rfl rfl

def f_Day_hourCost_L15s (hig : Nat → Int32) (flo : Nat → Int32) (sro : Nat → Int32) (x2 : Int32) (x3 : Int32) (k15 : Nat) (x4 : Int32) (x5 : Int32) : Int32 × Int32 := (if ((x2 >>> ((nI k15) &&& 31)) &&& (1 : Int32)) = (1 : Int32) then x4 - (flo k15) else x4, if ((x2 >>> ((nI k15) &&& 31)) &&& (1 : Int32)) = (1 : Int32) then x5 + (if ((x3 >>> ((nI k15) &&& 31)) &&& (1 : Int32)) = (1 : Int32) then sro k15 else hig k15) else x5)
def f_Day_hourCost_L15 (hig : Nat → Int32) (flo : Nat → Int32) (sro : Nat → Int32) (x2 : Int32) (x3 : Int32) (x4 : Int32) (x5 : Int32) : Nat → Int32 × Int32
  | 0 => (x4, x5)
  | k15 + 1 => f_Day_hourCost_L15s hig flo sro x2 x3 k15 ((f_Day_hourCost_L15 hig flo sro x2 x3 x4 x5 k15).1) ((f_Day_hourCost_L15 hig flo sro x2 x3 x4 x5 k15).2)
def f_Day_hourCost_L103s (hig : Nat → Int32) (pri : Nat → Int32) (ord : Nat → Nat) (flo : Nat → Int32) (sro : Nat → Int32) (sco : Nat → Int32) (x2 : Int32) (x3 : Int32) (k103 : Nat) (x4 : Int32) (x6 : Int32) : Int32 × Int32 := (if ((x2 >>> ((nI (ord k103)) &&& 31)) &&& (1 : Int32)) = (1 : Int32) then x4 - (if x4 < ((if (if ((x3 >>> ((nI (ord k103)) &&& 31)) &&& (1 : Int32)) = (1 : Int32) then (1 : Int32) else (0 : Int32)) = (0 : Int32) then hig (ord k103) else sro (ord k103)) - (flo (ord k103))) then x4 else (if (if ((x3 >>> ((nI (ord k103)) &&& 31)) &&& (1 : Int32)) = (1 : Int32) then (1 : Int32) else (0 : Int32)) = (0 : Int32) then hig (ord k103) else sro (ord k103)) - (flo (ord k103))) else x4, if ((x2 >>> ((nI (ord k103)) &&& 31)) &&& (1 : Int32)) = (1 : Int32) then x6 + ((((flo (ord k103)) + (if x4 < ((if (if ((x3 >>> ((nI (ord k103)) &&& 31)) &&& (1 : Int32)) = (1 : Int32) then (1 : Int32) else (0 : Int32)) = (0 : Int32) then hig (ord k103) else sro (ord k103)) - (flo (ord k103))) then x4 else (if (if ((x3 >>> ((nI (ord k103)) &&& 31)) &&& (1 : Int32)) = (1 : Int32) then (1 : Int32) else (0 : Int32)) = (0 : Int32) then hig (ord k103) else sro (ord k103)) - (flo (ord k103)))) * (pri (ord k103))) + (if (if ((x3 >>> ((nI (ord k103)) &&& 31)) &&& (1 : Int32)) = (1 : Int32) then (1 : Int32) else (0 : Int32)) = (0 : Int32) then (0 : Int32) else sco (ord k103))) else x6)
def f_Day_hourCost_L103 (hig : Nat → Int32) (pri : Nat → Int32) (ord : Nat → Nat) (flo : Nat → Int32) (sro : Nat → Int32) (sco : Nat → Int32) (x2 : Int32) (x3 : Int32) (x4 : Int32) (x6 : Int32) : Nat → Int32 × Int32
  | 0 => (x4, x6)
  | k103 + 1 => f_Day_hourCost_L103s hig pri ord flo sro sco x2 x3 k103 ((f_Day_hourCost_L103 hig pri ord flo sro sco x2 x3 x4 x6 k103).1) ((f_Day_hourCost_L103 hig pri ord flo sro sco x2 x3 x4 x6 k103).2)
def f_Day_hourCost (U : Nat) (res : Int32) (hig : Nat → Int32) (pri : Nat → Int32) (ord : Nat → Nat) (flo : Nat → Int32) (sro : Nat → Int32) (sco : Nat → Int32) (de : Int32) (on : Int32) (st : Int32) : Int32 := ((fun q1 => (if q1.1 < (0 : Int32) then (-1000000 : Int32) else (if q1.2 < (0 : Int32) then (-1000000 : Int32) else ((fun q2 => q2.2) (f_Day_hourCost_L103 hig pri ord flo sro sco on st q1.1 (0 : Int32) U))))) (f_Day_hourCost_L15 hig flo sro on st de ((-de) - res) U))
set_option maxRecDepth 20000 in
set_option maxHeartbeats 4000000 in
theorem c_Day_hourCost {G : mG} {h : mHp} {d : Nat} {H : Nat} {U : Nat} {res : Int32} {dem : Nat → Int32} {kin : Nat → Int32} {low : Nat → Int32} {hig : Nat → Int32} {pri : Nat → Int32} {sta : Nat → Int32} {ups : Nat → Int32} {dow : Nat → Int32} {onn : Nat → Int32} {ord : Nat → Nat} {flo : Nat → Int32} {sro : Nat → Int32} {sco : Nat → Int32} {de : Int32} {on : Int32} {st : Int32} (hv_d : isV h d (dayL d H U res dem kin low hig pri sta ups dow onn ord flo sro sco))  (hU : U ≤ 4) (hO : ∀ j, j < 4 → ord j < 4) : Ret G 0 mX2_hourCost [.ref d, .int de, .int on, .int st] h (some (.int (f_Day_hourCost U res hig pri ord flo sro sco de on st))) h := by
  generalize hf : f_Day_hourCost U res hig pri ord flo sro sco de on st = R
  unfold f_Day_hourCost at hf
  refine Ret.of [(0, .ref d), (1, .int de), (2, .int on), (3, .int st)] (by decide) (Nat.le_of_ble_eq_true rfl) rfl ?_
  rintro Z rfl X Y
  refine r_iload_n X 1 dX2_hourCost_0 rfl ?_
  refine r_istore [(0, .ref d), (1, .int de), (2, .int on), (3, .int st), (4, .int de)] X dX2_hourCost_1 (by decide) rfl ?_
  refine r_iload_n X 1 dX2_hourCost_3 rfl ?_
  refine r_ineg X dX2_hourCost_4 ?_
  refine r_aload_n X 0 dX2_hourCost_5 rfl ?_
  refine gf_X2_58 X dX2_hourCost_6 (hv_d 0 _ rfl) rfl ?_
  refine r_isub X dX2_hourCost_9 ?_
  refine r_istore [(0, .ref d), (1, .int de), (2, .int on), (3, .int st), (4, .int de), (5, .int ((-de) - res))] X dX2_hourCost_10 (by decide) rfl ?_
  refine r_iconst X (0 : Int32) dX2_hourCost_12 (by decide) ?_
  refine r_istore [(0, .ref d), (1, .int de), (2, .int on), (3, .int st), (4, .int de), (5, .int ((-de) - res)), (6, .int (0 : Int32))] X dX2_hourCost_13 (by decide) rfl ?_
  refine SW.pick [0, 2, 3, 4, 5, 6] [(0, .ref d), (2, .int on), (3, .int st), (4, .int de), (5, .int ((-de) - res)), (6, .int (0 : Int32))] rfl ?_
  refine loop_up (P := fun k3 => SW Z 15 [(0, .ref d), (2, .int on), (3, .int st), (4, .int ((f_Day_hourCost_L15 hig flo sro on st de ((-de) - res) k3).1)), (5, .int ((f_Day_hourCost_L15 hig flo sro on st de ((-de) - res) k3).2)), (6, .int (nI k3))] [] h) U ?_ ?_ 0 (Nat.zero_le _)
  rotate_left
  · intro k3 hk3 ih
    refine r_iload X 5 dX2_hourCost_15 rfl ?_
    refine r_aload_n X 0 dX2_hourCost_17 rfl ?_
    refine gf_X2_55 X dX2_hourCost_18 (hv_d 0 _ rfl) rfl ?_
    refine r_icmp_ge X 84 dX2_hourCost_21 rfl (fun z => absurd (nI_lt (a := k3) (b := U) (by omega) (by omega)) z) (fun _ => ?_)
    refine r_iload_n X 1 dX2_hourCost_24 rfl ?_
    refine r_iload X 5 dX2_hourCost_25 rfl ?_
    refine r_ishr X dX2_hourCost_27 ?_
    refine r_iconst X (1 : Int32) dX2_hourCost_28 (by decide) ?_
    refine r_iand X dX2_hourCost_29 ?_
    refine r_iconst X (1 : Int32) dX2_hourCost_30 (by decide) ?_
    refine m_join (P := SW Z 78 [(0, .ref d), (2, .int on), (3, .int st), (4, .int (if ((on >>> ((nI k3) &&& 31)) &&& (1 : Int32)) = (1 : Int32) then ((f_Day_hourCost_L15 hig flo sro on st de ((-de) - res) k3).1) - (flo k3) else (f_Day_hourCost_L15 hig flo sro on st de ((-de) - res) k3).1)), (5, .int (if ((on >>> ((nI k3) &&& 31)) &&& (1 : Int32)) = (1 : Int32) then ((f_Day_hourCost_L15 hig flo sro on st de ((-de) - res) k3).2) + (if ((st >>> ((nI k3) &&& 31)) &&& (1 : Int32)) = (1 : Int32) then sro k3 else hig k3) else (f_Day_hourCost_L15 hig flo sro on st de ((-de) - res) k3).2)), (6, .int (nI k3))] [] h) (fun K => ?_) ?_
    · refine r_icmp_ne X 78 dX2_hourCost_31 rfl (fun c4 => ?_) (fun c4 => ?_)
      · skip
        try simp only [if_neg c4] at K ⊢
        exact K
      · skip
        refine r_iload X 3 dX2_hourCost_34 rfl ?_
        refine r_aload_n X 0 dX2_hourCost_36 rfl ?_
        refine gf_X2_42 X dX2_hourCost_37 (hv_d 0 _ rfl) rfl ?_
        refine r_iload X 5 dX2_hourCost_40 rfl ?_
        refine r_ialdn X (k0 := k3) dX2_hourCost_42 (hv_d 11 _ rfl) (by first | omega | exact hO _ (by omega)) (by decide) ?_
        refine r_isub X dX2_hourCost_43 ?_
        refine r_istore [(0, .ref d), (2, .int on), (3, .int st), (4, .int (((f_Day_hourCost_L15 hig flo sro on st de ((-de) - res) k3).1) - (flo k3))), (5, .int ((f_Day_hourCost_L15 hig flo sro on st de ((-de) - res) k3).2)), (6, .int (nI k3))] X dX2_hourCost_44 (by decide) rfl ?_
        refine r_iload X 4 dX2_hourCost_46 rfl ?_
        refine r_iload_n X 2 dX2_hourCost_48 rfl ?_
        refine r_iload X 5 dX2_hourCost_49 rfl ?_
        refine r_ishr X dX2_hourCost_51 ?_
        refine r_iconst X (1 : Int32) dX2_hourCost_52 (by decide) ?_
        refine r_iand X dX2_hourCost_53 ?_
        refine r_iconst X (1 : Int32) dX2_hourCost_54 (by decide) ?_
        refine m_join (P := SW Z 75 [(0, .ref d), (2, .int on), (3, .int st), (4, .int (((f_Day_hourCost_L15 hig flo sro on st de ((-de) - res) k3).1) - (flo k3))), (6, .int (nI k3))] [.int (if ((st >>> ((nI k3) &&& 31)) &&& (1 : Int32)) = (1 : Int32) then sro k3 else hig k3), .int ((f_Day_hourCost_L15 hig flo sro on st de ((-de) - res) k3).2)] h) (fun K => ?_) ?_
        · refine r_icmp_ne X 68 dX2_hourCost_55 rfl (fun c5 => ?_) (fun c5 => ?_)
          · skip
            refine r_aload_n X 0 dX2_hourCost_68 rfl ?_
            refine gf_X2_21 X dX2_hourCost_69 (hv_d 0 _ rfl) rfl ?_
            refine r_iload X 5 dX2_hourCost_72 rfl ?_
            refine r_ialdn X (k0 := k3) dX2_hourCost_74 (hv_d 4 _ rfl) (by first | omega | exact hO _ (by omega)) (by decide) ?_
            refine SW.pick [0, 1, 2, 3, 5] [(0, .ref d), (2, .int on), (3, .int st), (4, .int (((f_Day_hourCost_L15 hig flo sro on st de ((-de) - res) k3).1) - (flo k3))), (6, .int (nI k3))] rfl ?_
            try simp only [if_neg c5] at K ⊢
            exact K
          · skip
            refine r_aload_n X 0 dX2_hourCost_58 rfl ?_
            refine gf_X2_45 X dX2_hourCost_59 (hv_d 0 _ rfl) rfl ?_
            refine r_iload X 5 dX2_hourCost_62 rfl ?_
            refine r_ialdn X (k0 := k3) dX2_hourCost_64 (hv_d 12 _ rfl) (by first | omega | exact hO _ (by omega)) (by decide) ?_
            refine r_goto X 75 dX2_hourCost_65 rfl ?_
            refine SW.pick [0, 1, 2, 3, 5] [(0, .ref d), (2, .int on), (3, .int st), (4, .int (((f_Day_hourCost_L15 hig flo sro on st de ((-de) - res) k3).1) - (flo k3))), (6, .int (nI k3))] rfl ?_
            try simp only [if_pos c5] at K ⊢
            exact K
        refine r_iadd X dX2_hourCost_75 ?_
        refine r_istore [(0, .ref d), (2, .int on), (3, .int st), (4, .int (((f_Day_hourCost_L15 hig flo sro on st de ((-de) - res) k3).1) - (flo k3))), (5, .int (((f_Day_hourCost_L15 hig flo sro on st de ((-de) - res) k3).2) + (if ((st >>> ((nI k3) &&& 31)) &&& (1 : Int32)) = (1 : Int32) then sro k3 else hig k3))), (6, .int (nI k3))] X dX2_hourCost_76 (by decide) rfl ?_
        try simp only [if_pos c4] at K ⊢
        exact K
    refine r_iinc [(0, .ref d), (2, .int on), (3, .int st), (4, .int (if ((on >>> ((nI k3) &&& 31)) &&& (1 : Int32)) = (1 : Int32) then ((f_Day_hourCost_L15 hig flo sro on st de ((-de) - res) k3).1) - (flo k3) else (f_Day_hourCost_L15 hig flo sro on st de ((-de) - res) k3).1)), (5, .int (if ((on >>> ((nI k3) &&& 31)) &&& (1 : Int32)) = (1 : Int32) then ((f_Day_hourCost_L15 hig flo sro on st de ((-de) - res) k3).2) + (if ((st >>> ((nI k3) &&& 31)) &&& (1 : Int32)) = (1 : Int32) then sro k3 else hig k3) else (f_Day_hourCost_L15 hig flo sro on st de ((-de) - res) k3).2)), (6, .int (nI (k3 + 1)))] X (nI (k3 + 1)) 5 dX2_hourCost_78 rfl (nI_succ _).symm (by decide) rfl ?_
    refine r_goto X 15 dX2_hourCost_81 rfl ?_
    exact ih
  obtain ⟨q1, eq1⟩ : ∃ q, q = f_Day_hourCost_L15 hig flo sro on st de ((-de) - res) U := ⟨_, rfl⟩
  rw [← eq1]
  rw [← eq1] at hf
  try dsimp only at hf
  refine r_iload X 5 dX2_hourCost_15 rfl ?_
  refine r_aload_n X 0 dX2_hourCost_17 rfl ?_
  refine gf_X2_55 X dX2_hourCost_18 (hv_d 0 _ rfl) rfl ?_
  refine r_icmp_ge X 84 dX2_hourCost_21 rfl (fun _ => ?_) (fun z => absurd z (nI_nlt (a := U) (b := U) (by omega) (by omega)))
  refine r_iload X 3 dX2_hourCost_84 rfl ?_
  refine r_if_lt X 94 dX2_hourCost_86 rfl (fun c6 => ?_) (fun c6 => ?_)
  · rw [if_pos c6] at hf
    refine r_ldc X dX2_hourCost_94 kk_X2_97 ?_
    try subst hf
    exact r_ireturn X Y dX2_hourCost_96 rfl rfl
  · rw [if_neg c6] at hf
    refine r_iload X 4 dX2_hourCost_89 rfl ?_
    refine r_if_ge X 97 dX2_hourCost_91 rfl (fun c7 => ?_) (fun c7 => ?_)
    · rw [if_neg c7] at hf
      refine r_iconst X (0 : Int32) dX2_hourCost_97 (by decide) ?_
      refine r_istore [(0, .ref d), (2, .int on), (3, .int st), (4, .int q1.1), (5, .int q1.2), (6, .int (0 : Int32))] X dX2_hourCost_98 (by decide) rfl ?_
      refine r_iconst X (0 : Int32) dX2_hourCost_100 (by decide) ?_
      refine r_istore [(0, .ref d), (2, .int on), (3, .int st), (4, .int q1.1), (5, .int q1.2), (6, .int (0 : Int32)), (7, .int (0 : Int32))] X dX2_hourCost_101 (by decide) rfl ?_
      refine SW.pick [0, 1, 2, 3, 5, 6] [(0, .ref d), (2, .int on), (3, .int st), (4, .int q1.1), (6, .int (0 : Int32)), (7, .int (0 : Int32))] rfl ?_
      refine loop_up (P := fun k13 => SW Z 103 [(0, .ref d), (2, .int on), (3, .int st), (4, .int ((f_Day_hourCost_L103 hig pri ord flo sro sco on st q1.1 (0 : Int32) k13).1)), (6, .int ((f_Day_hourCost_L103 hig pri ord flo sro sco on st q1.1 (0 : Int32) k13).2)), (7, .int (nI k13))] [] h) U ?_ ?_ 0 (Nat.zero_le _)
      rotate_left
      · intro k13 hk13 ih
        refine r_iload X 5 dX2_hourCost_103 rfl ?_
        refine r_aload_n X 0 dX2_hourCost_105 rfl ?_
        refine gf_X2_55 X dX2_hourCost_106 (hv_d 0 _ rfl) rfl ?_
        refine r_icmp_ge X 249 dX2_hourCost_109 rfl (fun z => absurd (nI_lt (a := k13) (b := U) (by omega) (by omega)) z) (fun _ => ?_)
        refine r_aload_n X 0 dX2_hourCost_112 rfl ?_
        refine gf_X2_39 X dX2_hourCost_113 (hv_d 0 _ rfl) rfl ?_
        refine r_iload X 5 dX2_hourCost_116 rfl ?_
        refine r_ialdn X (k0 := k13) dX2_hourCost_118 (hv_d 10 _ rfl) (by first | omega | exact hO _ (by omega)) (by decide) ?_
        refine r_istore [(0, .ref d), (2, .int on), (3, .int st), (4, .int ((f_Day_hourCost_L103 hig pri ord flo sro sco on st q1.1 (0 : Int32) k13).1)), (6, .int ((f_Day_hourCost_L103 hig pri ord flo sro sco on st q1.1 (0 : Int32) k13).2)), (7, .int (nI k13)), (8, .int (nI (ord k13)))] X dX2_hourCost_119 (by decide) rfl ?_
        refine r_iload_n X 1 dX2_hourCost_121 rfl ?_
        refine r_iload X 6 dX2_hourCost_122 rfl ?_
        refine r_ishr X dX2_hourCost_124 ?_
        refine r_iconst X (1 : Int32) dX2_hourCost_125 (by decide) ?_
        refine r_iand X dX2_hourCost_126 ?_
        refine r_iconst X (1 : Int32) dX2_hourCost_127 (by decide) ?_
        refine m_join (P := SW Z 243 [(0, .ref d), (2, .int on), (3, .int st), (4, .int (if ((on >>> ((nI (ord k13)) &&& 31)) &&& (1 : Int32)) = (1 : Int32) then ((f_Day_hourCost_L103 hig pri ord flo sro sco on st q1.1 (0 : Int32) k13).1) - (if ((f_Day_hourCost_L103 hig pri ord flo sro sco on st q1.1 (0 : Int32) k13).1) < ((if (if ((st >>> ((nI (ord k13)) &&& 31)) &&& (1 : Int32)) = (1 : Int32) then (1 : Int32) else (0 : Int32)) = (0 : Int32) then hig (ord k13) else sro (ord k13)) - (flo (ord k13))) then (f_Day_hourCost_L103 hig pri ord flo sro sco on st q1.1 (0 : Int32) k13).1 else (if (if ((st >>> ((nI (ord k13)) &&& 31)) &&& (1 : Int32)) = (1 : Int32) then (1 : Int32) else (0 : Int32)) = (0 : Int32) then hig (ord k13) else sro (ord k13)) - (flo (ord k13))) else (f_Day_hourCost_L103 hig pri ord flo sro sco on st q1.1 (0 : Int32) k13).1)), (6, .int (if ((on >>> ((nI (ord k13)) &&& 31)) &&& (1 : Int32)) = (1 : Int32) then ((f_Day_hourCost_L103 hig pri ord flo sro sco on st q1.1 (0 : Int32) k13).2) + ((((flo (ord k13)) + (if ((f_Day_hourCost_L103 hig pri ord flo sro sco on st q1.1 (0 : Int32) k13).1) < ((if (if ((st >>> ((nI (ord k13)) &&& 31)) &&& (1 : Int32)) = (1 : Int32) then (1 : Int32) else (0 : Int32)) = (0 : Int32) then hig (ord k13) else sro (ord k13)) - (flo (ord k13))) then (f_Day_hourCost_L103 hig pri ord flo sro sco on st q1.1 (0 : Int32) k13).1 else (if (if ((st >>> ((nI (ord k13)) &&& 31)) &&& (1 : Int32)) = (1 : Int32) then (1 : Int32) else (0 : Int32)) = (0 : Int32) then hig (ord k13) else sro (ord k13)) - (flo (ord k13)))) * (pri (ord k13))) + (if (if ((st >>> ((nI (ord k13)) &&& 31)) &&& (1 : Int32)) = (1 : Int32) then (1 : Int32) else (0 : Int32)) = (0 : Int32) then (0 : Int32) else sco (ord k13))) else (f_Day_hourCost_L103 hig pri ord flo sro sco on st q1.1 (0 : Int32) k13).2)), (7, .int (nI k13))] [] h) (fun K => ?_) ?_
        · refine r_icmp_ne X 243 dX2_hourCost_128 rfl (fun c14 => ?_) (fun c14 => ?_)
          · skip
            refine SW.pick [0, 1, 2, 3, 4, 5] [(0, .ref d), (2, .int on), (3, .int st), (4, .int ((f_Day_hourCost_L103 hig pri ord flo sro sco on st q1.1 (0 : Int32) k13).1)), (6, .int ((f_Day_hourCost_L103 hig pri ord flo sro sco on st q1.1 (0 : Int32) k13).2)), (7, .int (nI k13))] rfl ?_
            try simp only [if_neg c14] at K ⊢
            exact K
          · skip
            refine r_iload_n X 2 dX2_hourCost_131 rfl ?_
            refine r_iload X 6 dX2_hourCost_132 rfl ?_
            refine r_ishr X dX2_hourCost_134 ?_
            refine r_iconst X (1 : Int32) dX2_hourCost_135 (by decide) ?_
            refine r_iand X dX2_hourCost_136 ?_
            refine r_iconst X (1 : Int32) dX2_hourCost_137 (by decide) ?_
            refine m_join (P := SW Z 146 [(0, .ref d), (2, .int on), (3, .int st), (4, .int ((f_Day_hourCost_L103 hig pri ord flo sro sco on st q1.1 (0 : Int32) k13).1)), (6, .int ((f_Day_hourCost_L103 hig pri ord flo sro sco on st q1.1 (0 : Int32) k13).2)), (7, .int (nI k13)), (8, .int (nI (ord k13)))] [.int (if ((st >>> ((nI (ord k13)) &&& 31)) &&& (1 : Int32)) = (1 : Int32) then (1 : Int32) else (0 : Int32))] h) (fun K => ?_) ?_
            · refine r_icmp_ne X 145 dX2_hourCost_138 rfl (fun c15 => ?_) (fun c15 => ?_)
              · skip
                refine r_iconst X (0 : Int32) dX2_hourCost_145 (by decide) ?_
                try simp only [if_neg c15] at K ⊢
                exact K
              · skip
                refine r_iconst X (1 : Int32) dX2_hourCost_141 (by decide) ?_
                refine r_goto X 146 dX2_hourCost_142 rfl ?_
                try simp only [if_pos c15] at K ⊢
                exact K
            refine r_istore [(0, .ref d), (2, .int on), (3, .int st), (4, .int ((f_Day_hourCost_L103 hig pri ord flo sro sco on st q1.1 (0 : Int32) k13).1)), (6, .int ((f_Day_hourCost_L103 hig pri ord flo sro sco on st q1.1 (0 : Int32) k13).2)), (7, .int (nI k13)), (8, .int (nI (ord k13))), (9, .int (if ((st >>> ((nI (ord k13)) &&& 31)) &&& (1 : Int32)) = (1 : Int32) then (1 : Int32) else (0 : Int32)))] X dX2_hourCost_146 (by decide) rfl ?_
            refine r_iload X 7 dX2_hourCost_148 rfl ?_
            refine m_join (P := SW Z 170 [(0, .ref d), (2, .int on), (3, .int st), (4, .int ((f_Day_hourCost_L103 hig pri ord flo sro sco on st q1.1 (0 : Int32) k13).1)), (6, .int ((f_Day_hourCost_L103 hig pri ord flo sro sco on st q1.1 (0 : Int32) k13).2)), (7, .int (nI k13)), (8, .int (nI (ord k13))), (9, .int (if ((st >>> ((nI (ord k13)) &&& 31)) &&& (1 : Int32)) = (1 : Int32) then (1 : Int32) else (0 : Int32)))] [.int (if (if ((st >>> ((nI (ord k13)) &&& 31)) &&& (1 : Int32)) = (1 : Int32) then (1 : Int32) else (0 : Int32)) = (0 : Int32) then hig (ord k13) else sro (ord k13))] h) (fun K => ?_) ?_
            · refine r_if_eq X 163 dX2_hourCost_150 rfl (fun c16 => ?_) (fun c16 => ?_)
              · skip
                refine r_aload_n X 0 dX2_hourCost_163 rfl ?_
                refine gf_X2_21 X dX2_hourCost_164 (hv_d 0 _ rfl) rfl ?_
                refine r_iload X 6 dX2_hourCost_167 rfl ?_
                refine r_ialdn X (k0 := ord k13) dX2_hourCost_169 (hv_d 4 _ rfl) (by first | omega | exact hO _ (by omega)) (by decide) ?_
                try simp only [if_pos c16] at K ⊢
                exact K
              · skip
                refine r_aload_n X 0 dX2_hourCost_153 rfl ?_
                refine gf_X2_45 X dX2_hourCost_154 (hv_d 0 _ rfl) rfl ?_
                refine r_iload X 6 dX2_hourCost_157 rfl ?_
                refine r_ialdn X (k0 := ord k13) dX2_hourCost_159 (hv_d 12 _ rfl) (by first | omega | exact hO _ (by omega)) (by decide) ?_
                refine r_goto X 170 dX2_hourCost_160 rfl ?_
                try simp only [if_neg c16] at K ⊢
                exact K
            refine r_aload_n X 0 dX2_hourCost_170 rfl ?_
            refine gf_X2_42 X dX2_hourCost_171 (hv_d 0 _ rfl) rfl ?_
            refine r_iload X 6 dX2_hourCost_174 rfl ?_
            refine r_ialdn X (k0 := ord k13) dX2_hourCost_176 (hv_d 11 _ rfl) (by first | omega | exact hO _ (by omega)) (by decide) ?_
            refine r_isub X dX2_hourCost_177 ?_
            refine r_istore [(0, .ref d), (2, .int on), (3, .int st), (4, .int ((f_Day_hourCost_L103 hig pri ord flo sro sco on st q1.1 (0 : Int32) k13).1)), (6, .int ((f_Day_hourCost_L103 hig pri ord flo sro sco on st q1.1 (0 : Int32) k13).2)), (7, .int (nI k13)), (8, .int (nI (ord k13))), (9, .int (if ((st >>> ((nI (ord k13)) &&& 31)) &&& (1 : Int32)) = (1 : Int32) then (1 : Int32) else (0 : Int32))), (10, .int ((if (if ((st >>> ((nI (ord k13)) &&& 31)) &&& (1 : Int32)) = (1 : Int32) then (1 : Int32) else (0 : Int32)) = (0 : Int32) then hig (ord k13) else sro (ord k13)) - (flo (ord k13))))] X dX2_hourCost_178 (by decide) rfl ?_
            refine r_iload X 3 dX2_hourCost_180 rfl ?_
            refine r_iload X 8 dX2_hourCost_182 rfl ?_
            refine m_join (P := SW Z 194 [(0, .ref d), (2, .int on), (3, .int st), (4, .int ((f_Day_hourCost_L103 hig pri ord flo sro sco on st q1.1 (0 : Int32) k13).1)), (6, .int ((f_Day_hourCost_L103 hig pri ord flo sro sco on st q1.1 (0 : Int32) k13).2)), (7, .int (nI k13)), (8, .int (nI (ord k13))), (9, .int (if ((st >>> ((nI (ord k13)) &&& 31)) &&& (1 : Int32)) = (1 : Int32) then (1 : Int32) else (0 : Int32)))] [.int (if ((f_Day_hourCost_L103 hig pri ord flo sro sco on st q1.1 (0 : Int32) k13).1) < ((if (if ((st >>> ((nI (ord k13)) &&& 31)) &&& (1 : Int32)) = (1 : Int32) then (1 : Int32) else (0 : Int32)) = (0 : Int32) then hig (ord k13) else sro (ord k13)) - (flo (ord k13))) then (f_Day_hourCost_L103 hig pri ord flo sro sco on st q1.1 (0 : Int32) k13).1 else (if (if ((st >>> ((nI (ord k13)) &&& 31)) &&& (1 : Int32)) = (1 : Int32) then (1 : Int32) else (0 : Int32)) = (0 : Int32) then hig (ord k13) else sro (ord k13)) - (flo (ord k13)))] h) (fun K => ?_) ?_
            · refine r_icmp_ge X 192 dX2_hourCost_184 rfl (fun c17 => ?_) (fun c17 => ?_)
              · skip
                refine r_iload X 8 dX2_hourCost_192 rfl ?_
                refine SW.pick [0, 1, 2, 3, 4, 5, 6, 7] [(0, .ref d), (2, .int on), (3, .int st), (4, .int ((f_Day_hourCost_L103 hig pri ord flo sro sco on st q1.1 (0 : Int32) k13).1)), (6, .int ((f_Day_hourCost_L103 hig pri ord flo sro sco on st q1.1 (0 : Int32) k13).2)), (7, .int (nI k13)), (8, .int (nI (ord k13))), (9, .int (if ((st >>> ((nI (ord k13)) &&& 31)) &&& (1 : Int32)) = (1 : Int32) then (1 : Int32) else (0 : Int32)))] rfl ?_
                try simp only [if_neg c17] at K ⊢
                exact K
              · skip
                refine r_iload X 3 dX2_hourCost_187 rfl ?_
                refine r_goto X 194 dX2_hourCost_189 rfl ?_
                refine SW.pick [0, 1, 2, 3, 4, 5, 6, 7] [(0, .ref d), (2, .int on), (3, .int st), (4, .int ((f_Day_hourCost_L103 hig pri ord flo sro sco on st q1.1 (0 : Int32) k13).1)), (6, .int ((f_Day_hourCost_L103 hig pri ord flo sro sco on st q1.1 (0 : Int32) k13).2)), (7, .int (nI k13)), (8, .int (nI (ord k13))), (9, .int (if ((st >>> ((nI (ord k13)) &&& 31)) &&& (1 : Int32)) = (1 : Int32) then (1 : Int32) else (0 : Int32)))] rfl ?_
                try simp only [if_pos c17] at K ⊢
                exact K
            refine r_istore [(0, .ref d), (2, .int on), (3, .int st), (4, .int ((f_Day_hourCost_L103 hig pri ord flo sro sco on st q1.1 (0 : Int32) k13).1)), (6, .int ((f_Day_hourCost_L103 hig pri ord flo sro sco on st q1.1 (0 : Int32) k13).2)), (7, .int (nI k13)), (8, .int (nI (ord k13))), (9, .int (if ((st >>> ((nI (ord k13)) &&& 31)) &&& (1 : Int32)) = (1 : Int32) then (1 : Int32) else (0 : Int32))), (11, .int (if ((f_Day_hourCost_L103 hig pri ord flo sro sco on st q1.1 (0 : Int32) k13).1) < ((if (if ((st >>> ((nI (ord k13)) &&& 31)) &&& (1 : Int32)) = (1 : Int32) then (1 : Int32) else (0 : Int32)) = (0 : Int32) then hig (ord k13) else sro (ord k13)) - (flo (ord k13))) then (f_Day_hourCost_L103 hig pri ord flo sro sco on st q1.1 (0 : Int32) k13).1 else (if (if ((st >>> ((nI (ord k13)) &&& 31)) &&& (1 : Int32)) = (1 : Int32) then (1 : Int32) else (0 : Int32)) = (0 : Int32) then hig (ord k13) else sro (ord k13)) - (flo (ord k13))))] X dX2_hourCost_194 (by decide) rfl ?_
            refine r_iload X 3 dX2_hourCost_196 rfl ?_
            refine r_iload X 8 dX2_hourCost_198 rfl ?_
            refine r_isub X dX2_hourCost_200 ?_
            refine r_istore [(0, .ref d), (2, .int on), (3, .int st), (4, .int (((f_Day_hourCost_L103 hig pri ord flo sro sco on st q1.1 (0 : Int32) k13).1) - (if ((f_Day_hourCost_L103 hig pri ord flo sro sco on st q1.1 (0 : Int32) k13).1) < ((if (if ((st >>> ((nI (ord k13)) &&& 31)) &&& (1 : Int32)) = (1 : Int32) then (1 : Int32) else (0 : Int32)) = (0 : Int32) then hig (ord k13) else sro (ord k13)) - (flo (ord k13))) then (f_Day_hourCost_L103 hig pri ord flo sro sco on st q1.1 (0 : Int32) k13).1 else (if (if ((st >>> ((nI (ord k13)) &&& 31)) &&& (1 : Int32)) = (1 : Int32) then (1 : Int32) else (0 : Int32)) = (0 : Int32) then hig (ord k13) else sro (ord k13)) - (flo (ord k13))))), (6, .int ((f_Day_hourCost_L103 hig pri ord flo sro sco on st q1.1 (0 : Int32) k13).2)), (7, .int (nI k13)), (8, .int (nI (ord k13))), (9, .int (if ((st >>> ((nI (ord k13)) &&& 31)) &&& (1 : Int32)) = (1 : Int32) then (1 : Int32) else (0 : Int32))), (11, .int (if ((f_Day_hourCost_L103 hig pri ord flo sro sco on st q1.1 (0 : Int32) k13).1) < ((if (if ((st >>> ((nI (ord k13)) &&& 31)) &&& (1 : Int32)) = (1 : Int32) then (1 : Int32) else (0 : Int32)) = (0 : Int32) then hig (ord k13) else sro (ord k13)) - (flo (ord k13))) then (f_Day_hourCost_L103 hig pri ord flo sro sco on st q1.1 (0 : Int32) k13).1 else (if (if ((st >>> ((nI (ord k13)) &&& 31)) &&& (1 : Int32)) = (1 : Int32) then (1 : Int32) else (0 : Int32)) = (0 : Int32) then hig (ord k13) else sro (ord k13)) - (flo (ord k13))))] X dX2_hourCost_201 (by decide) rfl ?_
            refine r_iload X 4 dX2_hourCost_203 rfl ?_
            refine r_aload_n X 0 dX2_hourCost_205 rfl ?_
            refine gf_X2_42 X dX2_hourCost_206 (hv_d 0 _ rfl) rfl ?_
            refine r_iload X 6 dX2_hourCost_209 rfl ?_
            refine r_ialdn X (k0 := ord k13) dX2_hourCost_211 (hv_d 11 _ rfl) (by first | omega | exact hO _ (by omega)) (by decide) ?_
            refine r_iload X 8 dX2_hourCost_212 rfl ?_
            refine r_iadd X dX2_hourCost_214 ?_
            refine r_aload_n X 0 dX2_hourCost_215 rfl ?_
            refine gf_X2_24 X dX2_hourCost_216 (hv_d 0 _ rfl) rfl ?_
            refine r_iload X 6 dX2_hourCost_219 rfl ?_
            refine r_ialdn X (k0 := ord k13) dX2_hourCost_221 (hv_d 5 _ rfl) (by first | omega | exact hO _ (by omega)) (by decide) ?_
            refine r_imul X dX2_hourCost_222 ?_
            refine r_iload X 7 dX2_hourCost_223 rfl ?_
            refine m_join (P := SW Z 239 [(0, .ref d), (2, .int on), (3, .int st), (4, .int (((f_Day_hourCost_L103 hig pri ord flo sro sco on st q1.1 (0 : Int32) k13).1) - (if ((f_Day_hourCost_L103 hig pri ord flo sro sco on st q1.1 (0 : Int32) k13).1) < ((if (if ((st >>> ((nI (ord k13)) &&& 31)) &&& (1 : Int32)) = (1 : Int32) then (1 : Int32) else (0 : Int32)) = (0 : Int32) then hig (ord k13) else sro (ord k13)) - (flo (ord k13))) then (f_Day_hourCost_L103 hig pri ord flo sro sco on st q1.1 (0 : Int32) k13).1 else (if (if ((st >>> ((nI (ord k13)) &&& 31)) &&& (1 : Int32)) = (1 : Int32) then (1 : Int32) else (0 : Int32)) = (0 : Int32) then hig (ord k13) else sro (ord k13)) - (flo (ord k13))))), (7, .int (nI k13))] [.int (if (if ((st >>> ((nI (ord k13)) &&& 31)) &&& (1 : Int32)) = (1 : Int32) then (1 : Int32) else (0 : Int32)) = (0 : Int32) then (0 : Int32) else sco (ord k13)), .int (((flo (ord k13)) + (if ((f_Day_hourCost_L103 hig pri ord flo sro sco on st q1.1 (0 : Int32) k13).1) < ((if (if ((st >>> ((nI (ord k13)) &&& 31)) &&& (1 : Int32)) = (1 : Int32) then (1 : Int32) else (0 : Int32)) = (0 : Int32) then hig (ord k13) else sro (ord k13)) - (flo (ord k13))) then (f_Day_hourCost_L103 hig pri ord flo sro sco on st q1.1 (0 : Int32) k13).1 else (if (if ((st >>> ((nI (ord k13)) &&& 31)) &&& (1 : Int32)) = (1 : Int32) then (1 : Int32) else (0 : Int32)) = (0 : Int32) then hig (ord k13) else sro (ord k13)) - (flo (ord k13)))) * (pri (ord k13))), .int ((f_Day_hourCost_L103 hig pri ord flo sro sco on st q1.1 (0 : Int32) k13).2)] h) (fun K => ?_) ?_
            · refine r_if_eq X 238 dX2_hourCost_225 rfl (fun c18 => ?_) (fun c18 => ?_)
              · skip
                refine r_iconst X (0 : Int32) dX2_hourCost_238 (by decide) ?_
                refine SW.pick [0, 1, 2, 3, 5] [(0, .ref d), (2, .int on), (3, .int st), (4, .int (((f_Day_hourCost_L103 hig pri ord flo sro sco on st q1.1 (0 : Int32) k13).1) - (if ((f_Day_hourCost_L103 hig pri ord flo sro sco on st q1.1 (0 : Int32) k13).1) < ((if (if ((st >>> ((nI (ord k13)) &&& 31)) &&& (1 : Int32)) = (1 : Int32) then (1 : Int32) else (0 : Int32)) = (0 : Int32) then hig (ord k13) else sro (ord k13)) - (flo (ord k13))) then (f_Day_hourCost_L103 hig pri ord flo sro sco on st q1.1 (0 : Int32) k13).1 else (if (if ((st >>> ((nI (ord k13)) &&& 31)) &&& (1 : Int32)) = (1 : Int32) then (1 : Int32) else (0 : Int32)) = (0 : Int32) then hig (ord k13) else sro (ord k13)) - (flo (ord k13))))), (7, .int (nI k13))] rfl ?_
                try simp only [if_pos c18] at K ⊢
                exact K
              · skip
                refine r_aload_n X 0 dX2_hourCost_228 rfl ?_
                refine gf_X2_48 X dX2_hourCost_229 (hv_d 0 _ rfl) rfl ?_
                refine r_iload X 6 dX2_hourCost_232 rfl ?_
                refine r_ialdn X (k0 := ord k13) dX2_hourCost_234 (hv_d 13 _ rfl) (by first | omega | exact hO _ (by omega)) (by decide) ?_
                refine r_goto X 239 dX2_hourCost_235 rfl ?_
                refine SW.pick [0, 1, 2, 3, 5] [(0, .ref d), (2, .int on), (3, .int st), (4, .int (((f_Day_hourCost_L103 hig pri ord flo sro sco on st q1.1 (0 : Int32) k13).1) - (if ((f_Day_hourCost_L103 hig pri ord flo sro sco on st q1.1 (0 : Int32) k13).1) < ((if (if ((st >>> ((nI (ord k13)) &&& 31)) &&& (1 : Int32)) = (1 : Int32) then (1 : Int32) else (0 : Int32)) = (0 : Int32) then hig (ord k13) else sro (ord k13)) - (flo (ord k13))) then (f_Day_hourCost_L103 hig pri ord flo sro sco on st q1.1 (0 : Int32) k13).1 else (if (if ((st >>> ((nI (ord k13)) &&& 31)) &&& (1 : Int32)) = (1 : Int32) then (1 : Int32) else (0 : Int32)) = (0 : Int32) then hig (ord k13) else sro (ord k13)) - (flo (ord k13))))), (7, .int (nI k13))] rfl ?_
                try simp only [if_neg c18] at K ⊢
                exact K
            refine r_iadd X dX2_hourCost_239 ?_
            refine r_iadd X dX2_hourCost_240 ?_
            refine r_istore [(0, .ref d), (2, .int on), (3, .int st), (4, .int (((f_Day_hourCost_L103 hig pri ord flo sro sco on st q1.1 (0 : Int32) k13).1) - (if ((f_Day_hourCost_L103 hig pri ord flo sro sco on st q1.1 (0 : Int32) k13).1) < ((if (if ((st >>> ((nI (ord k13)) &&& 31)) &&& (1 : Int32)) = (1 : Int32) then (1 : Int32) else (0 : Int32)) = (0 : Int32) then hig (ord k13) else sro (ord k13)) - (flo (ord k13))) then (f_Day_hourCost_L103 hig pri ord flo sro sco on st q1.1 (0 : Int32) k13).1 else (if (if ((st >>> ((nI (ord k13)) &&& 31)) &&& (1 : Int32)) = (1 : Int32) then (1 : Int32) else (0 : Int32)) = (0 : Int32) then hig (ord k13) else sro (ord k13)) - (flo (ord k13))))), (6, .int (((f_Day_hourCost_L103 hig pri ord flo sro sco on st q1.1 (0 : Int32) k13).2) + ((((flo (ord k13)) + (if ((f_Day_hourCost_L103 hig pri ord flo sro sco on st q1.1 (0 : Int32) k13).1) < ((if (if ((st >>> ((nI (ord k13)) &&& 31)) &&& (1 : Int32)) = (1 : Int32) then (1 : Int32) else (0 : Int32)) = (0 : Int32) then hig (ord k13) else sro (ord k13)) - (flo (ord k13))) then (f_Day_hourCost_L103 hig pri ord flo sro sco on st q1.1 (0 : Int32) k13).1 else (if (if ((st >>> ((nI (ord k13)) &&& 31)) &&& (1 : Int32)) = (1 : Int32) then (1 : Int32) else (0 : Int32)) = (0 : Int32) then hig (ord k13) else sro (ord k13)) - (flo (ord k13)))) * (pri (ord k13))) + (if (if ((st >>> ((nI (ord k13)) &&& 31)) &&& (1 : Int32)) = (1 : Int32) then (1 : Int32) else (0 : Int32)) = (0 : Int32) then (0 : Int32) else sco (ord k13))))), (7, .int (nI k13))] X dX2_hourCost_241 (by decide) rfl ?_
            try simp only [if_pos c14] at K ⊢
            exact K
        refine r_iinc [(0, .ref d), (2, .int on), (3, .int st), (4, .int (if ((on >>> ((nI (ord k13)) &&& 31)) &&& (1 : Int32)) = (1 : Int32) then ((f_Day_hourCost_L103 hig pri ord flo sro sco on st q1.1 (0 : Int32) k13).1) - (if ((f_Day_hourCost_L103 hig pri ord flo sro sco on st q1.1 (0 : Int32) k13).1) < ((if (if ((st >>> ((nI (ord k13)) &&& 31)) &&& (1 : Int32)) = (1 : Int32) then (1 : Int32) else (0 : Int32)) = (0 : Int32) then hig (ord k13) else sro (ord k13)) - (flo (ord k13))) then (f_Day_hourCost_L103 hig pri ord flo sro sco on st q1.1 (0 : Int32) k13).1 else (if (if ((st >>> ((nI (ord k13)) &&& 31)) &&& (1 : Int32)) = (1 : Int32) then (1 : Int32) else (0 : Int32)) = (0 : Int32) then hig (ord k13) else sro (ord k13)) - (flo (ord k13))) else (f_Day_hourCost_L103 hig pri ord flo sro sco on st q1.1 (0 : Int32) k13).1)), (6, .int (if ((on >>> ((nI (ord k13)) &&& 31)) &&& (1 : Int32)) = (1 : Int32) then ((f_Day_hourCost_L103 hig pri ord flo sro sco on st q1.1 (0 : Int32) k13).2) + ((((flo (ord k13)) + (if ((f_Day_hourCost_L103 hig pri ord flo sro sco on st q1.1 (0 : Int32) k13).1) < ((if (if ((st >>> ((nI (ord k13)) &&& 31)) &&& (1 : Int32)) = (1 : Int32) then (1 : Int32) else (0 : Int32)) = (0 : Int32) then hig (ord k13) else sro (ord k13)) - (flo (ord k13))) then (f_Day_hourCost_L103 hig pri ord flo sro sco on st q1.1 (0 : Int32) k13).1 else (if (if ((st >>> ((nI (ord k13)) &&& 31)) &&& (1 : Int32)) = (1 : Int32) then (1 : Int32) else (0 : Int32)) = (0 : Int32) then hig (ord k13) else sro (ord k13)) - (flo (ord k13)))) * (pri (ord k13))) + (if (if ((st >>> ((nI (ord k13)) &&& 31)) &&& (1 : Int32)) = (1 : Int32) then (1 : Int32) else (0 : Int32)) = (0 : Int32) then (0 : Int32) else sco (ord k13))) else (f_Day_hourCost_L103 hig pri ord flo sro sco on st q1.1 (0 : Int32) k13).2)), (7, .int (nI (k13 + 1)))] X (nI (k13 + 1)) 5 dX2_hourCost_243 rfl (nI_succ _).symm (by decide) rfl ?_
        refine r_goto X 103 dX2_hourCost_246 rfl ?_
        exact ih
      obtain ⟨q2, eq2⟩ : ∃ q, q = f_Day_hourCost_L103 hig pri ord flo sro sco on st q1.1 (0 : Int32) U := ⟨_, rfl⟩
      rw [← eq2]
      rw [← eq2] at hf
      try dsimp only at hf
      refine r_iload X 5 dX2_hourCost_103 rfl ?_
      refine r_aload_n X 0 dX2_hourCost_105 rfl ?_
      refine gf_X2_55 X dX2_hourCost_106 (hv_d 0 _ rfl) rfl ?_
      refine r_icmp_ge X 249 dX2_hourCost_109 rfl (fun _ => ?_) (fun z => absurd z (nI_nlt (a := U) (b := U) (by omega) (by omega)))
      refine r_iload X 4 dX2_hourCost_249 rfl ?_
      try subst hf
      exact r_ireturn X Y dX2_hourCost_251 rfl rfl
    · rw [if_pos c7] at hf
      refine r_ldc X dX2_hourCost_94 kk_X2_97 ?_
      try subst hf
      exact r_ireturn X Y dX2_hourCost_96 rfl rfl

def f_Day_countStarts_L4s (onn : Nat → Int32) (k4 : Nat) (x1 : Int32) : Int32 := x1 + (f_bitCount (f_startsAmong (onn k4)))
def f_Day_countStarts_L4 (onn : Nat → Int32) (x1 : Int32) : Nat → Int32
  | 0 => x1
  | k4 + 1 => f_Day_countStarts_L4s onn k4 (f_Day_countStarts_L4 onn x1 k4)
def f_Day_countStarts (U : Nat) (onn : Nat → Int32) : Int32 := (f_Day_countStarts_L4 onn (0 : Int32) U)
set_option maxRecDepth 20000 in
set_option maxHeartbeats 4000000 in
theorem c_Day_countStarts {G : mG} {h : mHp} {d : Nat} {H : Nat} {U : Nat} {res : Int32} {dem : Nat → Int32} {kin : Nat → Int32} {low : Nat → Int32} {hig : Nat → Int32} {pri : Nat → Int32} {sta : Nat → Int32} {ups : Nat → Int32} {dow : Nat → Int32} {onn : Nat → Int32} {ord : Nat → Nat} {flo : Nat → Int32} {sro : Nat → Int32} {sco : Nat → Int32} (hv_d : isV h d (dayL d H U res dem kin low hig pri sta ups dow onn ord flo sro sco))  (hU : U ≤ 4) : Ret G 1 mX2_countStarts [.ref d] h (some (.int (f_Day_countStarts U onn))) h := by
  generalize hf : f_Day_countStarts U onn = R
  unfold f_Day_countStarts at hf
  refine Ret.of [(0, .ref d)] (by decide) (Nat.le_of_ble_eq_true rfl) rfl ?_
  rintro Z rfl X Y
  refine r_iconst X (0 : Int32) dX2_countStarts_0 (by decide) ?_
  refine r_istore_n [(0, .ref d), (1, .int (0 : Int32))] X dX2_countStarts_1 rfl (by decide) rfl ?_
  refine r_iconst X (0 : Int32) dX2_countStarts_2 (by decide) ?_
  refine r_istore_n [(0, .ref d), (1, .int (0 : Int32)), (2, .int (0 : Int32))] X dX2_countStarts_3 rfl (by decide) rfl ?_
  refine loop_up (P := fun k1 => SW Z 4 [(0, .ref d), (1, .int (f_Day_countStarts_L4 onn (0 : Int32) k1)), (2, .int (nI k1))] [] h) U ?_ ?_ 0 (Nat.zero_le _)
  rotate_left
  · intro k1 hk1 ih
    refine r_iload_n X 2 dX2_countStarts_4 rfl ?_
    refine r_aload_n X 0 dX2_countStarts_5 rfl ?_
    refine gf_X2_55 X dX2_countStarts_6 (hv_d 0 _ rfl) rfl ?_
    refine r_icmp_ge X 33 dX2_countStarts_9 rfl (fun z => absurd (nI_lt (a := k1) (b := U) (by omega) (by omega)) z) (fun _ => ?_)
    refine r_iload_n X 1 dX2_countStarts_12 rfl ?_
    refine r_aload_n X 0 dX2_countStarts_13 rfl ?_
    refine gf_X2_36 X dX2_countStarts_14 (hv_d 0 _ rfl) rfl ?_
    refine r_iload_n X 2 dX2_countStarts_17 rfl ?_
    refine r_ialdn X (k0 := k1) dX2_countStarts_18 (hv_d 9 _ rfl) (by omega) (by decide) ?_
    refine cl_X2_81 X (by decide) dX2_countStarts_19 (Nat.le_of_ble_eq_true rfl) (c_startsAmong  ) ?_
    refine cl_X2_119 X (by decide) dX2_countStarts_22 (Nat.le_of_ble_eq_true rfl) (c_bitCount  ) ?_
    refine r_iadd X dX2_countStarts_25 ?_
    refine r_istore_n [(0, .ref d), (1, .int ((f_Day_countStarts_L4 onn (0 : Int32) k1) + (f_bitCount (f_startsAmong (onn k1))))), (2, .int (nI k1))] X dX2_countStarts_26 rfl (by decide) rfl ?_
    refine r_iinc [(0, .ref d), (1, .int ((f_Day_countStarts_L4 onn (0 : Int32) k1) + (f_bitCount (f_startsAmong (onn k1))))), (2, .int (nI (k1 + 1)))] X (nI (k1 + 1)) 2 dX2_countStarts_27 rfl (nI_succ _).symm (by decide) rfl ?_
    refine r_goto X 4 dX2_countStarts_30 rfl ?_
    exact ih
  refine r_iload_n X 2 dX2_countStarts_4 rfl ?_
  refine r_aload_n X 0 dX2_countStarts_5 rfl ?_
  refine gf_X2_55 X dX2_countStarts_6 (hv_d 0 _ rfl) rfl ?_
  refine r_icmp_ge X 33 dX2_countStarts_9 rfl (fun _ => ?_) (fun z => absurd z (nI_nlt (a := U) (b := U) (by omega) (by omega)))
  refine r_iload_n X 1 dX2_countStarts_33 rfl ?_
  try subst hf
  exact r_ireturn X Y dX2_countStarts_34 rfl rfl

def f_Day_hoursNotMet_L4s (U : Nat) (res : Int32) (dem : Nat → Int32) (hig : Nat → Int32) (onn : Nat → Int32) (flo : Nat → Int32) (sro : Nat → Int32) (k4 : Nat) (x1 : Int32) : Int32 := if (f_Day_isMet U res hig flo sro (dem k4) (f_Day_unitsOn U onn (nI k4)) (f_Day_unitsStarting U onn (nI k4))) = (0 : Int32) then x1 ||| ((1 : Int32) <<< ((nI k4) &&& 31)) else x1
def f_Day_hoursNotMet_L4 (U : Nat) (res : Int32) (dem : Nat → Int32) (hig : Nat → Int32) (onn : Nat → Int32) (flo : Nat → Int32) (sro : Nat → Int32) (x1 : Int32) : Nat → Int32
  | 0 => x1
  | k4 + 1 => f_Day_hoursNotMet_L4s U res dem hig onn flo sro k4 (f_Day_hoursNotMet_L4 U res dem hig onn flo sro x1 k4)
def f_Day_hoursNotMet (H : Nat) (U : Nat) (res : Int32) (dem : Nat → Int32) (hig : Nat → Int32) (onn : Nat → Int32) (flo : Nat → Int32) (sro : Nat → Int32) : Int32 := (f_Day_hoursNotMet_L4 U res dem hig onn flo sro (0 : Int32) H)
set_option maxRecDepth 20000 in
set_option maxHeartbeats 4000000 in
theorem c_Day_hoursNotMet {G : mG} {h : mHp} {d : Nat} {H : Nat} {U : Nat} {res : Int32} {dem : Nat → Int32} {kin : Nat → Int32} {low : Nat → Int32} {hig : Nat → Int32} {pri : Nat → Int32} {sta : Nat → Int32} {ups : Nat → Int32} {dow : Nat → Int32} {onn : Nat → Int32} {ord : Nat → Nat} {flo : Nat → Int32} {sro : Nat → Int32} {sco : Nat → Int32} (hv_d : isV h d (dayL d H U res dem kin low hig pri sta ups dow onn ord flo sro sco))  (hU : U ≤ 4) (hH : H ≤ 6) : Ret G 3 mX2_hoursNotMet [.ref d] h (some (.int (f_Day_hoursNotMet H U res dem hig onn flo sro))) h := by
  generalize hf : f_Day_hoursNotMet H U res dem hig onn flo sro = R
  unfold f_Day_hoursNotMet at hf
  refine Ret.of [(0, .ref d)] (by decide) (Nat.le_of_ble_eq_true rfl) rfl ?_
  rintro Z rfl X Y
  refine r_iconst X (0 : Int32) dX2_hoursNotMet_0 (by decide) ?_
  refine r_istore_n [(0, .ref d), (1, .int (0 : Int32))] X dX2_hoursNotMet_1 rfl (by decide) rfl ?_
  refine r_iconst X (0 : Int32) dX2_hoursNotMet_2 (by decide) ?_
  refine r_istore_n [(0, .ref d), (1, .int (0 : Int32)), (2, .int (0 : Int32))] X dX2_hoursNotMet_3 rfl (by decide) rfl ?_
  refine loop_up (P := fun k2 => SW Z 4 [(0, .ref d), (1, .int (f_Day_hoursNotMet_L4 U res dem hig onn flo sro (0 : Int32) k2)), (2, .int (nI k2))] [] h) H ?_ ?_ 0 (Nat.zero_le _)
  rotate_left
  · intro k2 hk2 ih
    refine r_iload_n X 2 dX2_hoursNotMet_4 rfl ?_
    refine r_aload_n X 0 dX2_hoursNotMet_5 rfl ?_
    refine gf_X2_51 X dX2_hoursNotMet_6 (hv_d 0 _ rfl) rfl ?_
    refine r_icmp_ge X 47 dX2_hoursNotMet_9 rfl (fun z => absurd (nI_lt (a := k2) (b := H) (by omega) (by omega)) z) (fun _ => ?_)
    refine r_aload_n X 0 dX2_hoursNotMet_12 rfl ?_
    refine r_aload_n X 0 dX2_hoursNotMet_13 rfl ?_
    refine gf_X2_9 X dX2_hoursNotMet_14 (hv_d 0 _ rfl) rfl ?_
    refine r_iload_n X 2 dX2_hoursNotMet_17 rfl ?_
    refine r_ialdn X (k0 := k2) dX2_hoursNotMet_18 (hv_d 1 _ rfl) (by omega) (by decide) ?_
    refine r_aload_n X 0 dX2_hoursNotMet_19 rfl ?_
    refine r_iload_n X 2 dX2_hoursNotMet_20 rfl ?_
    refine cl_X2_101 X (by decide) dX2_hoursNotMet_21 (Nat.le_of_ble_eq_true rfl) (hv_d 0 _ rfl) (c_Day_unitsOn hv_d (by first | assumption | omega)) ?_
    refine r_aload_n X 0 dX2_hoursNotMet_24 rfl ?_
    refine r_iload_n X 2 dX2_hoursNotMet_25 rfl ?_
    refine cl_X2_104 X (by decide) dX2_hoursNotMet_26 (Nat.le_of_ble_eq_true rfl) (hv_d 0 _ rfl) (c_Day_unitsStarting hv_d (by first | assumption | omega)) ?_
    refine cl_X2_111 X (by decide) dX2_hoursNotMet_29 (Nat.le_of_ble_eq_true rfl) (hv_d 0 _ rfl) (c_Day_isMet hv_d (by first | assumption | omega)) ?_
    refine m_join (P := SW Z 41 [(0, .ref d), (1, .int (if (f_Day_isMet U res hig flo sro (dem k2) (f_Day_unitsOn U onn (nI k2)) (f_Day_unitsStarting U onn (nI k2))) = (0 : Int32) then (f_Day_hoursNotMet_L4 U res dem hig onn flo sro (0 : Int32) k2) ||| ((1 : Int32) <<< ((nI k2) &&& 31)) else (f_Day_hoursNotMet_L4 U res dem hig onn flo sro (0 : Int32) k2))), (2, .int (nI k2))] [] h) (fun K => ?_) ?_
    · refine r_if_ne X 41 dX2_hoursNotMet_32 rfl (fun c3 => ?_) (fun c3 => ?_)
      · skip
        try simp only [if_neg c3] at K ⊢
        exact K
      · skip
        refine r_iload_n X 1 dX2_hoursNotMet_35 rfl ?_
        refine r_iconst X (1 : Int32) dX2_hoursNotMet_36 (by decide) ?_
        refine r_iload_n X 2 dX2_hoursNotMet_37 rfl ?_
        refine r_ishl X dX2_hoursNotMet_38 ?_
        refine r_ior X dX2_hoursNotMet_39 ?_
        refine r_istore_n [(0, .ref d), (1, .int ((f_Day_hoursNotMet_L4 U res dem hig onn flo sro (0 : Int32) k2) ||| ((1 : Int32) <<< ((nI k2) &&& 31)))), (2, .int (nI k2))] X dX2_hoursNotMet_40 rfl (by decide) rfl ?_
        try simp only [if_pos c3] at K ⊢
        exact K
    refine r_iinc [(0, .ref d), (1, .int (if (f_Day_isMet U res hig flo sro (dem k2) (f_Day_unitsOn U onn (nI k2)) (f_Day_unitsStarting U onn (nI k2))) = (0 : Int32) then (f_Day_hoursNotMet_L4 U res dem hig onn flo sro (0 : Int32) k2) ||| ((1 : Int32) <<< ((nI k2) &&& 31)) else (f_Day_hoursNotMet_L4 U res dem hig onn flo sro (0 : Int32) k2))), (2, .int (nI (k2 + 1)))] X (nI (k2 + 1)) 2 dX2_hoursNotMet_41 rfl (nI_succ _).symm (by decide) rfl ?_
    refine r_goto X 4 dX2_hoursNotMet_44 rfl ?_
    exact ih
  refine r_iload_n X 2 dX2_hoursNotMet_4 rfl ?_
  refine r_aload_n X 0 dX2_hoursNotMet_5 rfl ?_
  refine gf_X2_51 X dX2_hoursNotMet_6 (hv_d 0 _ rfl) rfl ?_
  refine r_icmp_ge X 47 dX2_hoursNotMet_9 rfl (fun _ => ?_) (fun z => absurd z (nI_nlt (a := H) (b := H) (by omega) (by omega)))
  refine r_iload_n X 1 dX2_hoursNotMet_47 rfl ?_
  try subst hf
  exact r_ireturn X Y dX2_hoursNotMet_48 rfl rfl

def f_Day_unitsNotKeeping_L4s (H : Nat) (kin : Nat → Int32) (ups : Nat → Int32) (dow : Nat → Int32) (onn : Nat → Int32) (k4 : Nat) (x1 : Int32) : Int32 := if (f_Day_keeps H kin ups dow k4 (onn k4)) = (0 : Int32) then x1 ||| ((1 : Int32) <<< ((nI k4) &&& 31)) else x1
def f_Day_unitsNotKeeping_L4 (H : Nat) (kin : Nat → Int32) (ups : Nat → Int32) (dow : Nat → Int32) (onn : Nat → Int32) (x1 : Int32) : Nat → Int32
  | 0 => x1
  | k4 + 1 => f_Day_unitsNotKeeping_L4s H kin ups dow onn k4 (f_Day_unitsNotKeeping_L4 H kin ups dow onn x1 k4)
def f_Day_unitsNotKeeping (H : Nat) (U : Nat) (kin : Nat → Int32) (ups : Nat → Int32) (dow : Nat → Int32) (onn : Nat → Int32) : Int32 := (f_Day_unitsNotKeeping_L4 H kin ups dow onn (0 : Int32) U)
set_option maxRecDepth 20000 in
set_option maxHeartbeats 4000000 in
theorem c_Day_unitsNotKeeping {G : mG} {h : mHp} {d : Nat} {H : Nat} {U : Nat} {res : Int32} {dem : Nat → Int32} {kin : Nat → Int32} {low : Nat → Int32} {hig : Nat → Int32} {pri : Nat → Int32} {sta : Nat → Int32} {ups : Nat → Int32} {dow : Nat → Int32} {onn : Nat → Int32} {ord : Nat → Nat} {flo : Nat → Int32} {sro : Nat → Int32} {sco : Nat → Int32} (hv_d : isV h d (dayL d H U res dem kin low hig pri sta ups dow onn ord flo sro sco))  (hU : U ≤ 4) (hH : H ≤ 6) : Ret G 2 mX2_unitsNotKeeping [.ref d] h (some (.int (f_Day_unitsNotKeeping H U kin ups dow onn))) h := by
  generalize hf : f_Day_unitsNotKeeping H U kin ups dow onn = R
  unfold f_Day_unitsNotKeeping at hf
  refine Ret.of [(0, .ref d)] (by decide) (Nat.le_of_ble_eq_true rfl) rfl ?_
  rintro Z rfl X Y
  refine r_iconst X (0 : Int32) dX2_unitsNotKeeping_0 (by decide) ?_
  refine r_istore_n [(0, .ref d), (1, .int (0 : Int32))] X dX2_unitsNotKeeping_1 rfl (by decide) rfl ?_
  refine r_iconst X (0 : Int32) dX2_unitsNotKeeping_2 (by decide) ?_
  refine r_istore_n [(0, .ref d), (1, .int (0 : Int32)), (2, .int (0 : Int32))] X dX2_unitsNotKeeping_3 rfl (by decide) rfl ?_
  refine loop_up (P := fun k2 => SW Z 4 [(0, .ref d), (1, .int (f_Day_unitsNotKeeping_L4 H kin ups dow onn (0 : Int32) k2)), (2, .int (nI k2))] [] h) U ?_ ?_ 0 (Nat.zero_le _)
  rotate_left
  · intro k2 hk2 ih
    refine r_iload_n X 2 dX2_unitsNotKeeping_4 rfl ?_
    refine r_aload_n X 0 dX2_unitsNotKeeping_5 rfl ?_
    refine gf_X2_55 X dX2_unitsNotKeeping_6 (hv_d 0 _ rfl) rfl ?_
    refine r_icmp_ge X 38 dX2_unitsNotKeeping_9 rfl (fun z => absurd (nI_lt (a := k2) (b := U) (by omega) (by omega)) z) (fun _ => ?_)
    refine r_aload_n X 0 dX2_unitsNotKeeping_12 rfl ?_
    refine r_iload_n X 2 dX2_unitsNotKeeping_13 rfl ?_
    refine r_aload_n X 0 dX2_unitsNotKeeping_14 rfl ?_
    refine gf_X2_36 X dX2_unitsNotKeeping_15 (hv_d 0 _ rfl) rfl ?_
    refine r_iload_n X 2 dX2_unitsNotKeeping_18 rfl ?_
    refine r_ialdn X (k0 := k2) dX2_unitsNotKeeping_19 (hv_d 9 _ rfl) (by omega) (by decide) ?_
    refine cl_X2_115 X (by decide) dX2_unitsNotKeeping_20 (Nat.le_of_ble_eq_true rfl) (hv_d 0 _ rfl) (c_Day_keeps hv_d (by first | assumption | omega) (by first | assumption | omega)) ?_
    refine m_join (P := SW Z 32 [(0, .ref d), (1, .int (if (f_Day_keeps H kin ups dow k2 (onn k2)) = (0 : Int32) then (f_Day_unitsNotKeeping_L4 H kin ups dow onn (0 : Int32) k2) ||| ((1 : Int32) <<< ((nI k2) &&& 31)) else (f_Day_unitsNotKeeping_L4 H kin ups dow onn (0 : Int32) k2))), (2, .int (nI k2))] [] h) (fun K => ?_) ?_
    · refine r_if_ne X 32 dX2_unitsNotKeeping_23 rfl (fun c3 => ?_) (fun c3 => ?_)
      · skip
        try simp only [if_neg c3] at K ⊢
        exact K
      · skip
        refine r_iload_n X 1 dX2_unitsNotKeeping_26 rfl ?_
        refine r_iconst X (1 : Int32) dX2_unitsNotKeeping_27 (by decide) ?_
        refine r_iload_n X 2 dX2_unitsNotKeeping_28 rfl ?_
        refine r_ishl X dX2_unitsNotKeeping_29 ?_
        refine r_ior X dX2_unitsNotKeeping_30 ?_
        refine r_istore_n [(0, .ref d), (1, .int ((f_Day_unitsNotKeeping_L4 H kin ups dow onn (0 : Int32) k2) ||| ((1 : Int32) <<< ((nI k2) &&& 31)))), (2, .int (nI k2))] X dX2_unitsNotKeeping_31 rfl (by decide) rfl ?_
        try simp only [if_pos c3] at K ⊢
        exact K
    refine r_iinc [(0, .ref d), (1, .int (if (f_Day_keeps H kin ups dow k2 (onn k2)) = (0 : Int32) then (f_Day_unitsNotKeeping_L4 H kin ups dow onn (0 : Int32) k2) ||| ((1 : Int32) <<< ((nI k2) &&& 31)) else (f_Day_unitsNotKeeping_L4 H kin ups dow onn (0 : Int32) k2))), (2, .int (nI (k2 + 1)))] X (nI (k2 + 1)) 2 dX2_unitsNotKeeping_32 rfl (nI_succ _).symm (by decide) rfl ?_
    refine r_goto X 4 dX2_unitsNotKeeping_35 rfl ?_
    exact ih
  refine r_iload_n X 2 dX2_unitsNotKeeping_4 rfl ?_
  refine r_aload_n X 0 dX2_unitsNotKeeping_5 rfl ?_
  refine gf_X2_55 X dX2_unitsNotKeeping_6 (hv_d 0 _ rfl) rfl ?_
  refine r_icmp_ge X 38 dX2_unitsNotKeeping_9 rfl (fun _ => ?_) (fun z => absurd z (nI_nlt (a := U) (b := U) (by omega) (by omega)))
  refine r_iload_n X 1 dX2_unitsNotKeeping_38 rfl ?_
  try subst hf
  exact r_ireturn X Y dX2_unitsNotKeeping_39 rfl rfl

def f_Day_givenBy_L12 (U : Nat) (hig : Nat → Int32) (ord : Nat → Nat) (flo : Nat → Int32) (sro : Nat → Int32) (n1 : Nat) (x3 : Int32) (x4 : Int32) : Nat → Int32 → Nat → (Int32 × Nat) ⊕ (Int32)
  | 0, y5, y6 => .inl (y5, y6)
  | n + 1, y5, y6 => (if (nI y6) < (nI U) then (if ((x3 >>> ((nI (ord y6)) &&& 31)) &&& (1 : Int32)) = (1 : Int32) then (if (nI (ord y6)) = (nI n1) then .inr ((flo (ord y6)) + (f_Math_minI y5 ((if ((x4 >>> ((nI (ord y6)) &&& 31)) &&& (1 : Int32)) = (1 : Int32) then sro (ord y6) else hig (ord y6)) - (flo (ord y6))))) else f_Day_givenBy_L12 U hig ord flo sro n1 x3 x4 n (y5 - (f_Math_minI y5 ((if ((x4 >>> ((nI (ord y6)) &&& 31)) &&& (1 : Int32)) = (1 : Int32) then sro (ord y6) else hig (ord y6)) - (flo (ord y6))))) (y6 + 1)) else f_Day_givenBy_L12 U hig ord flo sro n1 x3 x4 n y5 (y6 + 1)) else .inl (y5, y6))
def f_Day_givenBy (U : Nat) (hig : Nat → Int32) (ord : Nat → Nat) (flo : Nat → Int32) (sro : Nat → Int32) (u : Nat) (de : Int32) (on : Int32) (st : Int32) : Int32 := (match f_Day_givenBy_L12 U hig ord flo sro u on st (U + 1) (de - (f_Day_floorsOf U flo on)) 0 with | .inr r => r | .inl (y5, y6) => (0 : Int32))
set_option maxRecDepth 20000 in
set_option maxHeartbeats 4000000 in
theorem c_Day_givenBy {G : mG} {h : mHp} {d : Nat} {H : Nat} {U : Nat} {res : Int32} {dem : Nat → Int32} {kin : Nat → Int32} {low : Nat → Int32} {hig : Nat → Int32} {pri : Nat → Int32} {sta : Nat → Int32} {ups : Nat → Int32} {dow : Nat → Int32} {onn : Nat → Int32} {ord : Nat → Nat} {flo : Nat → Int32} {sro : Nat → Int32} {sco : Nat → Int32} {u : Nat} {de : Int32} {on : Int32} {st : Int32} (hv_d : isV h d (dayL d H U res dem kin low hig pri sta ups dow onn ord flo sro sco))  (hU : U ≤ 4) (hO : ∀ j, j < 4 → ord j < 4) (hu : u < 2 ^ 31) : Ret G 1 mX2_givenBy [.ref d, .int (nI u), .int de, .int on, .int st] h (some (.int (f_Day_givenBy U hig ord flo sro u de on st))) h := by
  generalize hf : f_Day_givenBy U hig ord flo sro u de on st = R
  unfold f_Day_givenBy at hf
  refine Ret.of [(0, .ref d), (1, .int (nI u)), (2, .int de), (3, .int on), (4, .int st)] (by decide) (Nat.le_of_ble_eq_true rfl) rfl ?_
  rintro Z rfl X Y
  refine r_iload_n X 2 dX2_givenBy_0 rfl ?_
  refine r_aload_n X 0 dX2_givenBy_1 rfl ?_
  refine r_iload_n X 3 dX2_givenBy_2 rfl ?_
  refine cl_X2_85 X (by decide) dX2_givenBy_3 (Nat.le_of_ble_eq_true rfl) (hv_d 0 _ rfl) (c_Day_floorsOf hv_d (by first | assumption | omega)) ?_
  refine r_isub X dX2_givenBy_6 ?_
  refine r_istore [(0, .ref d), (1, .int (nI u)), (2, .int de), (3, .int on), (4, .int st), (5, .int (de - (f_Day_floorsOf U flo on)))] X dX2_givenBy_7 (by decide) rfl ?_
  refine r_iconst X (0 : Int32) dX2_givenBy_9 (by decide) ?_
  refine r_istore [(0, .ref d), (1, .int (nI u)), (2, .int de), (3, .int on), (4, .int st), (5, .int (de - (f_Day_floorsOf U flo on))), (6, .int (0 : Int32))] X dX2_givenBy_10 (by decide) rfl ?_
  refine SW.pick [0, 1, 3, 4, 5, 6] [(0, .ref d), (1, .int (nI u)), (3, .int on), (4, .int st), (5, .int (de - (f_Day_floorsOf U flo on))), (6, .int (0 : Int32))] rfl ?_
  have wl4 : ∀ (n_ : Nat) (y5 : Int32) (y6 : Nat), (y6 ≤ U) → (U - y6) < n_ → ∀ Rl, f_Day_givenBy_L12 U hig ord flo sro u on st n_ y5 y6 = Rl → (∀ (y5 : Int32) (y6 : Nat), Rl = .inl (y5, y6) → (y6 ≤ U) → SW Z 117 [] [] h) → (∀ r, Rl = .inr r → R = r) → SW Z 12 [(0, .ref d), (1, .int (nI u)), (3, .int on), (4, .int st), (5, .int y5), (6, .int (nI y6))] [] h := by
    intro n_
    induction n_ with
    | zero => intro y5 y6 _ hm; exact absurd hm (Nat.not_lt_zero _)
    | succ n_ ih =>
      intro y5 y6 hi hm Rl hf K Kr
      rw [f_Day_givenBy_L12] at hf
      refine r_iload X 5 dX2_givenBy_12 rfl ?_
      refine r_aload_n X 0 dX2_givenBy_14 rfl ?_
      refine gf_X2_55 X dX2_givenBy_15 (hv_d 0 _ rfl) rfl ?_
      refine r_icmp_ge X 117 dX2_givenBy_18 rfl (fun ct12 => ?_) (fun ct12 => ?_)
      · rw [if_neg ct12] at hf
        refine SW.pick [] [] rfl ?_
        exact K _ _ hf.symm hi
      · rw [if_pos ct12] at hf
        have ht12 := nI_ltX ct12 (by omega) (by omega)
        refine r_aload_n X 0 dX2_givenBy_21 rfl ?_
        refine gf_X2_39 X dX2_givenBy_22 (hv_d 0 _ rfl) rfl ?_
        refine r_iload X 5 dX2_givenBy_25 rfl ?_
        refine r_ialdn X (k0 := y6) dX2_givenBy_27 (hv_d 10 _ rfl) (by first | omega | exact hO _ (by omega)) (by decide) ?_
        refine r_istore [(0, .ref d), (1, .int (nI u)), (3, .int on), (4, .int st), (5, .int y5), (6, .int (nI y6)), (7, .int (nI (ord y6)))] X dX2_givenBy_28 (by decide) rfl ?_
        refine r_iload_n X 2 dX2_givenBy_30 rfl ?_
        refine r_iload X 6 dX2_givenBy_31 rfl ?_
        refine r_ishr X dX2_givenBy_33 ?_
        refine r_iconst X (1 : Int32) dX2_givenBy_34 (by decide) ?_
        refine r_iand X dX2_givenBy_35 ?_
        refine r_iconst X (1 : Int32) dX2_givenBy_36 (by decide) ?_
        refine r_icmp_ne X 111 dX2_givenBy_37 rfl (fun c5 => ?_) (fun c5 => ?_)
        · rw [if_neg c5] at hf
          refine r_iinc [(0, .ref d), (1, .int (nI u)), (3, .int on), (4, .int st), (5, .int y5), (6, .int (nI (y6 + 1))), (7, .int (nI (ord y6)))] X (nI (y6 + 1)) 5 dX2_givenBy_111 rfl (nI_succ _).symm (by decide) rfl ?_
          refine r_goto X 12 dX2_givenBy_114 rfl ?_
          refine SW.pick [0, 1, 2, 3, 4, 5] [(0, .ref d), (1, .int (nI u)), (3, .int on), (4, .int st), (5, .int y5), (6, .int (nI (y6 + 1)))] rfl ?_
          exact ih _ _ (by omega) (by omega) Rl hf K Kr
        · rw [if_pos c5] at hf
          refine r_iload X 3 dX2_givenBy_40 rfl ?_
          refine r_iload X 6 dX2_givenBy_42 rfl ?_
          refine r_ishr X dX2_givenBy_44 ?_
          refine r_iconst X (1 : Int32) dX2_givenBy_45 (by decide) ?_
          refine r_iand X dX2_givenBy_46 ?_
          refine r_iconst X (1 : Int32) dX2_givenBy_47 (by decide) ?_
          refine m_join (P := SW Z 68 [(0, .ref d), (1, .int (nI u)), (3, .int on), (4, .int st), (5, .int y5), (6, .int (nI y6)), (7, .int (nI (ord y6)))] [.int (if ((st >>> ((nI (ord y6)) &&& 31)) &&& (1 : Int32)) = (1 : Int32) then sro (ord y6) else hig (ord y6))] h) (fun K => ?_) ?_
          · refine r_icmp_ne X 61 dX2_givenBy_48 rfl (fun c6 => ?_) (fun c6 => ?_)
            · skip
              refine r_aload_n X 0 dX2_givenBy_61 rfl ?_
              refine gf_X2_21 X dX2_givenBy_62 (hv_d 0 _ rfl) rfl ?_
              refine r_iload X 6 dX2_givenBy_65 rfl ?_
              refine r_ialdn X (k0 := ord y6) dX2_givenBy_67 (hv_d 4 _ rfl) (by first | omega | exact hO _ (by omega)) (by decide) ?_
              try simp only [if_neg c6] at K ⊢
              exact K
            · skip
              refine r_aload_n X 0 dX2_givenBy_51 rfl ?_
              refine gf_X2_45 X dX2_givenBy_52 (hv_d 0 _ rfl) rfl ?_
              refine r_iload X 6 dX2_givenBy_55 rfl ?_
              refine r_ialdn X (k0 := ord y6) dX2_givenBy_57 (hv_d 12 _ rfl) (by first | omega | exact hO _ (by omega)) (by decide) ?_
              refine r_goto X 68 dX2_givenBy_58 rfl ?_
              try simp only [if_pos c6] at K ⊢
              exact K
          refine r_istore [(0, .ref d), (1, .int (nI u)), (3, .int on), (4, .int st), (5, .int y5), (6, .int (nI y6)), (7, .int (nI (ord y6))), (8, .int (if ((st >>> ((nI (ord y6)) &&& 31)) &&& (1 : Int32)) = (1 : Int32) then sro (ord y6) else hig (ord y6)))] X dX2_givenBy_68 (by decide) rfl ?_
          refine r_iload X 4 dX2_givenBy_70 rfl ?_
          refine r_iload X 7 dX2_givenBy_72 rfl ?_
          refine r_aload_n X 0 dX2_givenBy_74 rfl ?_
          refine gf_X2_42 X dX2_givenBy_75 (hv_d 0 _ rfl) rfl ?_
          refine r_iload X 6 dX2_givenBy_78 rfl ?_
          refine r_ialdn X (k0 := ord y6) dX2_givenBy_80 (hv_d 11 _ rfl) (by first | omega | exact hO _ (by omega)) (by decide) ?_
          refine r_isub X dX2_givenBy_81 ?_
          refine mm_X2_92 X (by decide) dX2_givenBy_82 (Nat.le_of_ble_eq_true rfl) ?_
          refine r_istore [(0, .ref d), (1, .int (nI u)), (3, .int on), (4, .int st), (5, .int y5), (6, .int (nI y6)), (7, .int (nI (ord y6))), (8, .int (if ((st >>> ((nI (ord y6)) &&& 31)) &&& (1 : Int32)) = (1 : Int32) then sro (ord y6) else hig (ord y6))), (9, .int (f_Math_minI y5 ((if ((st >>> ((nI (ord y6)) &&& 31)) &&& (1 : Int32)) = (1 : Int32) then sro (ord y6) else hig (ord y6)) - (flo (ord y6)))))] X dX2_givenBy_85 (by decide) rfl ?_
          refine r_iload X 6 dX2_givenBy_87 rfl ?_
          refine r_iload_n X 1 dX2_givenBy_89 rfl ?_
          refine r_icmp_ne X 104 dX2_givenBy_90 rfl (fun c7 => ?_) (fun c7 => ?_)
          · rw [if_neg c7] at hf
            refine r_iload X 4 dX2_givenBy_104 rfl ?_
            refine r_iload X 8 dX2_givenBy_106 rfl ?_
            refine r_isub X dX2_givenBy_108 ?_
            refine r_istore [(0, .ref d), (1, .int (nI u)), (3, .int on), (4, .int st), (5, .int (y5 - (f_Math_minI y5 ((if ((st >>> ((nI (ord y6)) &&& 31)) &&& (1 : Int32)) = (1 : Int32) then sro (ord y6) else hig (ord y6)) - (flo (ord y6)))))), (6, .int (nI y6)), (7, .int (nI (ord y6))), (8, .int (if ((st >>> ((nI (ord y6)) &&& 31)) &&& (1 : Int32)) = (1 : Int32) then sro (ord y6) else hig (ord y6))), (9, .int (f_Math_minI y5 ((if ((st >>> ((nI (ord y6)) &&& 31)) &&& (1 : Int32)) = (1 : Int32) then sro (ord y6) else hig (ord y6)) - (flo (ord y6)))))] X dX2_givenBy_109 (by decide) rfl ?_
            refine r_iinc [(0, .ref d), (1, .int (nI u)), (3, .int on), (4, .int st), (5, .int (y5 - (f_Math_minI y5 ((if ((st >>> ((nI (ord y6)) &&& 31)) &&& (1 : Int32)) = (1 : Int32) then sro (ord y6) else hig (ord y6)) - (flo (ord y6)))))), (6, .int (nI (y6 + 1))), (7, .int (nI (ord y6))), (8, .int (if ((st >>> ((nI (ord y6)) &&& 31)) &&& (1 : Int32)) = (1 : Int32) then sro (ord y6) else hig (ord y6))), (9, .int (f_Math_minI y5 ((if ((st >>> ((nI (ord y6)) &&& 31)) &&& (1 : Int32)) = (1 : Int32) then sro (ord y6) else hig (ord y6)) - (flo (ord y6)))))] X (nI (y6 + 1)) 5 dX2_givenBy_111 rfl (nI_succ _).symm (by decide) rfl ?_
            refine r_goto X 12 dX2_givenBy_114 rfl ?_
            refine SW.pick [0, 1, 2, 3, 4, 5] [(0, .ref d), (1, .int (nI u)), (3, .int on), (4, .int st), (5, .int (y5 - (f_Math_minI y5 ((if ((st >>> ((nI (ord y6)) &&& 31)) &&& (1 : Int32)) = (1 : Int32) then sro (ord y6) else hig (ord y6)) - (flo (ord y6)))))), (6, .int (nI (y6 + 1)))] rfl ?_
            exact ih _ _ (by omega) (by omega) Rl hf K Kr
          · rw [if_pos c7] at hf
            refine r_aload_n X 0 dX2_givenBy_93 rfl ?_
            refine gf_X2_42 X dX2_givenBy_94 (hv_d 0 _ rfl) rfl ?_
            refine r_iload X 6 dX2_givenBy_97 rfl ?_
            refine r_ialdn X (k0 := ord y6) dX2_givenBy_99 (hv_d 11 _ rfl) (by first | omega | exact hO _ (by omega)) (by decide) ?_
            refine r_iload X 8 dX2_givenBy_100 rfl ?_
            refine r_iadd X dX2_givenBy_102 ?_
            have hR := Kr _ hf.symm
            subst hR
            exact r_ireturn X Y dX2_givenBy_103 rfl rfl
  refine wl4 (U + 1) (de - (f_Day_floorsOf U flo on)) 0 (by first | trivial | assumption | omega) (by omega) _ rfl (fun y5 y6 hl hi => ?_) (fun r hl => ?_)
  rotate_left
  · rw [hl] at hf; exact hf.symm
  rw [hl] at hf
  try dsimp only at hf
  refine r_iconst X (0 : Int32) dX2_givenBy_117 (by decide) ?_
  try subst hf
  exact r_ireturn X Y dX2_givenBy_118 rfl rfl

def f_Day_planCost_L14 (H : Nat) (U : Nat) (res : Int32) (dem : Nat → Int32) (hig : Nat → Int32) (pri : Nat → Int32) (onn : Nat → Int32) (ord : Nat → Nat) (flo : Nat → Int32) (sro : Nat → Int32) (sco : Nat → Int32) : Nat → Int32 → Nat → (Int32 × Nat) ⊕ (Int32)
  | 0, y1, y2 => .inl (y1, y2)
  | n + 1, y1, y2 => (if (nI y2) < (nI H) then (if (f_Day_hourCost U res hig pri ord flo sro sco (dem y2) (f_Day_unitsOn U onn (nI y2)) (f_Day_unitsStarting U onn (nI y2))) = (-1000000 : Int32) then .inr (-1000000 : Int32) else f_Day_planCost_L14 H U res dem hig pri onn ord flo sro sco n (y1 + (f_Day_hourCost U res hig pri ord flo sro sco (dem y2) (f_Day_unitsOn U onn (nI y2)) (f_Day_unitsStarting U onn (nI y2)))) (y2 + 1)) else .inl (y1, y2))
def f_Day_planCost (H : Nat) (U : Nat) (res : Int32) (dem : Nat → Int32) (kin : Nat → Int32) (hig : Nat → Int32) (pri : Nat → Int32) (ups : Nat → Int32) (dow : Nat → Int32) (onn : Nat → Int32) (ord : Nat → Nat) (flo : Nat → Int32) (sro : Nat → Int32) (sco : Nat → Int32) : Int32 := (if (f_Day_unitsNotKeeping H U kin ups dow onn) = (0 : Int32) then (match f_Day_planCost_L14 H U res dem hig pri onn ord flo sro sco (H + 1) (0 : Int32) 0 with | .inr r => r | .inl (y1, y2) => y1) else (-1000000 : Int32))
set_option maxRecDepth 20000 in
set_option maxHeartbeats 4000000 in
theorem c_Day_planCost {G : mG} {h : mHp} {d : Nat} {H : Nat} {U : Nat} {res : Int32} {dem : Nat → Int32} {kin : Nat → Int32} {low : Nat → Int32} {hig : Nat → Int32} {pri : Nat → Int32} {sta : Nat → Int32} {ups : Nat → Int32} {dow : Nat → Int32} {onn : Nat → Int32} {ord : Nat → Nat} {flo : Nat → Int32} {sro : Nat → Int32} {sco : Nat → Int32} (hv_d : isV h d (dayL d H U res dem kin low hig pri sta ups dow onn ord flo sro sco))  (hU : U ≤ 4) (hH : H ≤ 6) (hO : ∀ j, j < 4 → ord j < 4) : Ret G 3 mX2_planCost [.ref d] h (some (.int (f_Day_planCost H U res dem kin hig pri ups dow onn ord flo sro sco))) h := by
  generalize hf : f_Day_planCost H U res dem kin hig pri ups dow onn ord flo sro sco = R
  unfold f_Day_planCost at hf
  refine Ret.of [(0, .ref d)] (by decide) (Nat.le_of_ble_eq_true rfl) rfl ?_
  rintro Z rfl X Y
  refine r_aload_n X 0 dX2_planCost_0 rfl ?_
  refine cl_X2_98 X (by decide) dX2_planCost_1 (Nat.le_of_ble_eq_true rfl) (hv_d 0 _ rfl) (c_Day_unitsNotKeeping hv_d (by first | assumption | omega) (by first | assumption | omega)) ?_
  refine r_if_eq X 10 dX2_planCost_4 rfl (fun c1 => ?_) (fun c1 => ?_)
  · rw [if_pos c1] at hf
    refine r_iconst X (0 : Int32) dX2_planCost_10 (by decide) ?_
    refine r_istore_n [(0, .ref d), (1, .int (0 : Int32))] X dX2_planCost_11 rfl (by decide) rfl ?_
    refine r_iconst X (0 : Int32) dX2_planCost_12 (by decide) ?_
    refine r_istore_n [(0, .ref d), (1, .int (0 : Int32)), (2, .int (0 : Int32))] X dX2_planCost_13 rfl (by decide) rfl ?_
    have wl3 : ∀ (n_ : Nat) (y1 : Int32) (y2 : Nat), (y2 ≤ H) → (H - y2) < n_ → ∀ Rl, f_Day_planCost_L14 H U res dem hig pri onn ord flo sro sco n_ y1 y2 = Rl → (∀ (y1 : Int32) (y2 : Nat), Rl = .inl (y1, y2) → (y2 ≤ H) → SW Z 62 [(1, .int y1)] [] h) → (∀ r, Rl = .inr r → R = r) → SW Z 14 [(0, .ref d), (1, .int y1), (2, .int (nI y2))] [] h := by
      intro n_
      induction n_ with
      | zero => intro y1 y2 _ hm; exact absurd hm (Nat.not_lt_zero _)
      | succ n_ ih =>
        intro y1 y2 hi hm Rl hf K Kr
        rw [f_Day_planCost_L14] at hf
        refine r_iload_n X 2 dX2_planCost_14 rfl ?_
        refine r_aload_n X 0 dX2_planCost_15 rfl ?_
        refine gf_X2_51 X dX2_planCost_16 (hv_d 0 _ rfl) rfl ?_
        refine r_icmp_ge X 62 dX2_planCost_19 rfl (fun ct14 => ?_) (fun ct14 => ?_)
        · rw [if_neg ct14] at hf
          refine SW.pick [1] [(1, .int y1)] rfl ?_
          exact K _ _ hf.symm hi
        · rw [if_pos ct14] at hf
          have ht14 := nI_ltX ct14 (by omega) (by omega)
          refine r_aload_n X 0 dX2_planCost_22 rfl ?_
          refine r_aload_n X 0 dX2_planCost_23 rfl ?_
          refine gf_X2_9 X dX2_planCost_24 (hv_d 0 _ rfl) rfl ?_
          refine r_iload_n X 2 dX2_planCost_27 rfl ?_
          refine r_ialdn X (k0 := y2) dX2_planCost_28 (hv_d 1 _ rfl) (by first | omega | exact hO _ (by omega)) (by decide) ?_
          refine r_aload_n X 0 dX2_planCost_29 rfl ?_
          refine r_iload_n X 2 dX2_planCost_30 rfl ?_
          refine cl_X2_101 X (by decide) dX2_planCost_31 (Nat.le_of_ble_eq_true rfl) (hv_d 0 _ rfl) (c_Day_unitsOn hv_d (by first | assumption | omega)) ?_
          refine r_aload_n X 0 dX2_planCost_34 rfl ?_
          refine r_iload_n X 2 dX2_planCost_35 rfl ?_
          refine cl_X2_104 X (by decide) dX2_planCost_36 (Nat.le_of_ble_eq_true rfl) (hv_d 0 _ rfl) (c_Day_unitsStarting hv_d (by first | assumption | omega)) ?_
          refine cl_X2_107 X (by decide) dX2_planCost_39 (Nat.le_of_ble_eq_true rfl) (hv_d 0 _ rfl) (c_Day_hourCost hv_d (by first | assumption | omega) (by first | assumption | omega)) ?_
          refine r_istore_n [(0, .ref d), (1, .int y1), (2, .int (nI y2)), (3, .int (f_Day_hourCost U res hig pri ord flo sro sco (dem y2) (f_Day_unitsOn U onn (nI y2)) (f_Day_unitsStarting U onn (nI y2))))] X dX2_planCost_42 rfl (by decide) rfl ?_
          refine r_iload_n X 3 dX2_planCost_43 rfl ?_
          refine r_ldc X dX2_planCost_44 kk_X2_97 ?_
          refine r_icmp_ne X 52 dX2_planCost_46 rfl (fun c4 => ?_) (fun c4 => ?_)
          · rw [if_neg c4] at hf
            refine r_iload_n X 1 dX2_planCost_52 rfl ?_
            refine r_iload_n X 3 dX2_planCost_53 rfl ?_
            refine r_iadd X dX2_planCost_54 ?_
            refine r_istore_n [(0, .ref d), (1, .int (y1 + (f_Day_hourCost U res hig pri ord flo sro sco (dem y2) (f_Day_unitsOn U onn (nI y2)) (f_Day_unitsStarting U onn (nI y2))))), (2, .int (nI y2)), (3, .int (f_Day_hourCost U res hig pri ord flo sro sco (dem y2) (f_Day_unitsOn U onn (nI y2)) (f_Day_unitsStarting U onn (nI y2))))] X dX2_planCost_55 rfl (by decide) rfl ?_
            refine r_iinc [(0, .ref d), (1, .int (y1 + (f_Day_hourCost U res hig pri ord flo sro sco (dem y2) (f_Day_unitsOn U onn (nI y2)) (f_Day_unitsStarting U onn (nI y2))))), (2, .int (nI (y2 + 1))), (3, .int (f_Day_hourCost U res hig pri ord flo sro sco (dem y2) (f_Day_unitsOn U onn (nI y2)) (f_Day_unitsStarting U onn (nI y2))))] X (nI (y2 + 1)) 2 dX2_planCost_56 rfl (nI_succ _).symm (by decide) rfl ?_
            refine r_goto X 14 dX2_planCost_59 rfl ?_
            refine SW.pick [0, 1, 2] [(0, .ref d), (1, .int (y1 + (f_Day_hourCost U res hig pri ord flo sro sco (dem y2) (f_Day_unitsOn U onn (nI y2)) (f_Day_unitsStarting U onn (nI y2))))), (2, .int (nI (y2 + 1)))] rfl ?_
            exact ih _ _ (by omega) (by omega) Rl hf K Kr
          · rw [if_pos c4] at hf
            refine r_ldc X dX2_planCost_49 kk_X2_97 ?_
            have hR := Kr _ hf.symm
            subst hR
            exact r_ireturn X Y dX2_planCost_51 rfl rfl
    refine wl3 (H + 1) (0 : Int32) 0 (by first | trivial | assumption | omega) (by omega) _ rfl (fun y1 y2 hl hi => ?_) (fun r hl => ?_)
    rotate_left
    · rw [hl] at hf; exact hf.symm
    rw [hl] at hf
    try dsimp only at hf
    refine r_iload_n X 0 dX2_planCost_62 rfl ?_
    try subst hf
    exact r_ireturn X Y dX2_planCost_63 rfl rfl
  · rw [if_neg c1] at hf
    refine r_ldc X dX2_planCost_7 kk_X2_97 ?_
    try subst hf
    exact r_ireturn X Y dX2_planCost_9 rfl rfl

theorem up_lt {f : Nat → Nat} {k v N : Nat} (h : ∀ j, j < N → f j < N) (hv : v < N) : ∀ j, j < N → va_up f k v j < N := by
  intro j hj
  unfold va_up
  by_cases e : j = k
  · rw [if_pos e]; exact hv
  · rw [if_neg e]; exact h j hj

def f_Day_sortUnits_L12 (pri : Nat → Int32) (n1 : Nat) : Nat → Nat → (Nat → Nat) → Nat × (Nat → Nat)
  | 0, y2, ordv => (y2, ordv)
  | n + 1, y2, ordv => (if (0 : Int32) < (nI y2) then (if (pri n1) < (pri (ordv (y2 - 1))) then f_Day_sortUnits_L12 pri n1 n (y2 - 1) (va_up ordv y2 (ordv (y2 - 1))) else (y2, ordv)) else (y2, ordv))
def f_Day_sortUnits_L2s (pri : Nat → Int32) (k2 : Nat) (ord : Nat → Nat) : (Nat → Nat) := ((fun q1 => va_up q1.2 q1.1 k2) (f_Day_sortUnits_L12 pri k2 (k2 + 1) k2 ord))
def f_Day_sortUnits_L2 (pri : Nat → Int32) (ord : Nat → Nat) : Nat → (Nat → Nat)
  | 0 => ord
  | k2 + 1 => f_Day_sortUnits_L2s pri k2 (f_Day_sortUnits_L2 pri ord k2)
theorem sortUnits_in {pri : Nat → Int32} {u : Nat} : ∀ (n y : Nat) (o : Nat → Nat), y ≤ 3 → (∀ j, j < 4 → o j < 4) → (f_Day_sortUnits_L12 pri u n y o).1 ≤ y ∧ ∀ j, j < 4 → (f_Day_sortUnits_L12 pri u n y o).2 j < 4 := by
  intro n
  induction n with
  | zero => intro y o _ h; exact ⟨Nat.le_refl _, h⟩
  | succ n ih =>
    intro y o hy h
    rw [f_Day_sortUnits_L12]
    by_cases c1 : (0 : Int32) < nI y
    · rw [if_pos c1]
      have h0 : 0 < y := nI_ltX (a := 0) c1 (by omega) (by omega)
      split
      · have := ih (y - 1) (va_up o y (o (y - 1))) (by omega) (up_lt h (h _ (by omega)))
        exact ⟨by omega, this.2⟩
      · exact ⟨Nat.le_refl _, h⟩
    · rw [if_neg c1]
      exact ⟨Nat.le_refl _, h⟩
theorem sortUnits_lt {pri : Nat → Int32} {ord : Nat → Nat} (hO : ∀ j, j < 4 → ord j < 4) : ∀ k, k ≤ 4 → ∀ j, j < 4 → f_Day_sortUnits_L2 pri ord k j < 4 := by
  intro k
  induction k with
  | zero => intro _; exact hO
  | succ k ih =>
    intro hk
    have h1 := ih (by omega)
    show ∀ j, j < 4 → f_Day_sortUnits_L2s pri k (f_Day_sortUnits_L2 pri ord k) j < 4
    unfold f_Day_sortUnits_L2s
    exact up_lt (sortUnits_in _ _ _ (by omega) h1).2 (by omega)
def f_Day_sortUnits (U : Nat) (pri : Nat → Int32) (ord : Nat → Nat) : (Nat → Nat) := (f_Day_sortUnits_L2 pri ord U)
set_option maxRecDepth 20000 in
set_option maxHeartbeats 4000000 in
theorem c_Day_sortUnits {G : mG} {h : mHp} {d : Nat} {H : Nat} {U : Nat} {res : Int32} {dem : Nat → Int32} {kin : Nat → Int32} {low : Nat → Int32} {hig : Nat → Int32} {pri : Nat → Int32} {sta : Nat → Int32} {ups : Nat → Int32} {dow : Nat → Int32} {onn : Nat → Int32} {ord : Nat → Nat} {flo : Nat → Int32} {sro : Nat → Int32} {sco : Nat → Int32}   (hU : U ≤ 4) (hO : ∀ j, j < 4 → ord j < 4) : Ret G 0 mX2_sortUnits [.ref d] (ov h d (dayL d H U res dem kin low hig pri sta ups dow onn ord flo sro sco)) none (ov h d (dayL d H U res dem kin low hig pri sta ups dow onn (f_Day_sortUnits U pri ord) flo sro sco)) := by
  generalize hf : f_Day_sortUnits U pri ord = R
  unfold f_Day_sortUnits at hf
  refine Ret.of [(0, .ref d)] (by decide) (Nat.le_of_ble_eq_true rfl) rfl ?_
  rintro Z rfl X Y
  have hv_d : isV (ov h d (dayL d H U res dem kin low hig pri sta ups dow onn ord flo sro sco)) d (dayL d H U res dem kin low hig pri sta ups dow onn ord flo sro sco) := ov_isV
  refine r_iconst X (0 : Int32) dX2_sortUnits_0 (by decide) ?_
  refine r_istore_n [(0, .ref d), (1, .int (0 : Int32))] X dX2_sortUnits_1 rfl (by decide) rfl ?_
  refine loop_up (P := fun k4 => SW Z 2 [(0, .ref d), (1, .int (nI k4))] [] (ov h d (dayL d H U res dem kin low hig pri sta ups dow onn (f_Day_sortUnits_L2 pri ord k4) flo sro sco))) U ?_ ?_ 0 (Nat.zero_le _)
  rotate_left
  · intro k4 hk4 ih
    have hv_d : isV (ov h d (dayL d H U res dem kin low hig pri sta ups dow onn (f_Day_sortUnits_L2 pri ord k4) flo sro sco)) d (dayL d H U res dem kin low hig pri sta ups dow onn (f_Day_sortUnits_L2 pri ord k4) flo sro sco) := ov_isV
    have hOk : ∀ j, j < 4 → f_Day_sortUnits_L2 pri ord k4 j < 4 := sortUnits_lt hO k4 (by omega)
    refine r_iload_n X 1 dX2_sortUnits_2 rfl ?_
    refine r_aload_n X 0 dX2_sortUnits_3 rfl ?_
    refine gf_X2_55 X dX2_sortUnits_4 (hv_d 0 _ rfl) rfl ?_
    refine r_icmp_ge X 71 dX2_sortUnits_7 rfl (fun z => absurd (nI_lt (a := k4) (b := U) (by omega) (by omega)) z) (fun _ => ?_)
    refine r_iload_n X 1 dX2_sortUnits_10 rfl ?_
    refine r_istore_n [(0, .ref d), (1, .int (nI k4)), (2, .int (nI k4))] X dX2_sortUnits_11 rfl (by decide) rfl ?_
    have wl5 : ∀ (n_ : Nat) (y2 : Nat) (ordv : Nat → Nat), (y2 ≤ 3 ∧ ∀ j, j < 4 → ordv j < 4) → y2 < n_ → ((((f_Day_sortUnits_L12 pri k4 n_ y2 ordv).1) ≤ 3 ∧ ∀ j, j < 4 → ((f_Day_sortUnits_L12 pri k4 n_ y2 ordv).2) j < 4) → SW Z 58 [(0, .ref d), (1, .int (nI k4)), (2, .int (nI ((f_Day_sortUnits_L12 pri k4 n_ y2 ordv).1)))] [] (ov h d (dayL d H U res dem kin low hig pri sta ups dow onn ((f_Day_sortUnits_L12 pri k4 n_ y2 ordv).2) flo sro sco))) → SW Z 12 [(0, .ref d), (1, .int (nI k4)), (2, .int (nI y2))] [] (ov h d (dayL d H U res dem kin low hig pri sta ups dow onn ordv flo sro sco)) := by
      intro n_
      induction n_ with
      | zero => intro y2 ordv _ hm; exact absurd hm (Nat.not_lt_zero _)
      | succ n_ ih =>
        intro y2 ordv hi hm K
        generalize hf : f_Day_sortUnits_L12 pri k4 (n_ + 1) y2 ordv = Rl at K
        rw [f_Day_sortUnits_L12] at hf
        have hv_d : isV (ov h d (dayL d H U res dem kin low hig pri sta ups dow onn ordv flo sro sco)) d (dayL d H U res dem kin low hig pri sta ups dow onn ordv flo sro sco) := ov_isV
        refine r_iload_n X 2 dX2_sortUnits_12 rfl ?_
        refine r_if_le X 58 dX2_sortUnits_13 rfl (fun ct => ?_) (fun ct => ?_)
        · rw [if_neg ct] at hf
          subst hf
          exact K hi
        · rw [if_pos ct] at hf
          have hy : 0 < y2 := nI_ltX (a := 0) ct (by omega) (by omega)
          refine r_aload_n X 0 dX2_sortUnits_16 rfl ?_
          refine gf_X2_24 X dX2_sortUnits_17 (hv_d 0 _ rfl) rfl ?_
          refine r_iload_n X 1 dX2_sortUnits_20 rfl ?_
          refine r_ialdn X (k0 := k4) dX2_sortUnits_21 (hv_d 5 _ rfl) (by first | omega | exact hi.2 _ (by omega)) (by decide) ?_
          refine r_aload_n X 0 dX2_sortUnits_22 rfl ?_
          refine gf_X2_24 X dX2_sortUnits_23 (hv_d 0 _ rfl) rfl ?_
          refine r_aload_n X 0 dX2_sortUnits_26 rfl ?_
          refine gf_X2_39 X dX2_sortUnits_27 (hv_d 0 _ rfl) rfl ?_
          refine r_iload_n X 2 dX2_sortUnits_30 rfl ?_
          refine r_iconst X (1 : Int32) dX2_sortUnits_31 (by decide) ?_
          refine r_isubn X (a := y2) (b := 1) dX2_sortUnits_32 (by omega) ?_
          refine r_ialdn X (k0 := y2 - 1) dX2_sortUnits_33 (hv_d 10 _ rfl) (by first | omega | exact hi.2 _ (by omega)) (by decide) ?_
          refine r_ialdn X (k0 := ordv (y2 - 1)) dX2_sortUnits_34 (hv_d 5 _ rfl) (by first | omega | exact hi.2 _ (by omega)) (by decide) ?_
          refine r_icmp_ge X 58 dX2_sortUnits_35 rfl (fun c6 => ?_) (fun c6 => ?_)
          · rw [if_neg c6] at hf
            subst hf
            exact K hi
          · rw [if_pos c6] at hf
            refine r_aload_n X 0 dX2_sortUnits_38 rfl ?_
            refine gf_X2_39 X dX2_sortUnits_39 (hv_d 0 _ rfl) rfl ?_
            refine r_iload_n X 2 dX2_sortUnits_42 rfl ?_
            refine r_aload_n X 0 dX2_sortUnits_43 rfl ?_
            refine gf_X2_39 X dX2_sortUnits_44 (hv_d 0 _ rfl) rfl ?_
            refine r_iload_n X 2 dX2_sortUnits_47 rfl ?_
            refine r_iconst X (1 : Int32) dX2_sortUnits_48 (by decide) ?_
            refine r_isubn X (a := y2) (b := 1) dX2_sortUnits_49 (by omega) ?_
            refine r_ialdn X (k0 := y2 - 1) dX2_sortUnits_50 (hv_d 10 _ rfl) (by first | omega | exact hi.2 _ (by omega)) (by decide) ?_
            refine r_iastn X (k0 := y2) dX2_sortUnits_51 (hv_d 10 _ rfl) (by first | omega | exact hi.2 _ (by omega)) (by first | decide | omega) ?_
            refine SW.heq (h2 := (ov h d (dayL d H U res dem kin low hig pri sta ups dow onn (va_up ordv y2 (ordv (y2 - 1))) flo sro sco))) (by rw [show upd (fun j => nI (ordv j)) y2 (nI (ordv (y2 - 1))) = _ from updN ordv y2 (ordv (y2 - 1))]; exact ov_up 10 (Nat.le_of_ble_eq_true rfl) rfl) ?_
            have hv_d : isV (ov h d (dayL d H U res dem kin low hig pri sta ups dow onn (va_up ordv y2 (ordv (y2 - 1))) flo sro sco)) d (dayL d H U res dem kin low hig pri sta ups dow onn (va_up ordv y2 (ordv (y2 - 1))) flo sro sco) := ov_isV
            refine r_iinc [(0, .ref d), (1, .int (nI k4)), (2, .int (nI (y2 - 1)))] X (nI (y2 - 1)) 2 dX2_sortUnits_52 rfl (nI_decr (by omega)) (by decide) rfl ?_
            refine r_goto X 12 dX2_sortUnits_55 rfl ?_
            exact ih _ _ ⟨by omega, up_lt hi.2 (hi.2 _ (by omega))⟩ (by omega) (by rw [hf]; exact K)
    refine wl5 (k4 + 1) k4 (f_Day_sortUnits_L2 pri ord k4) ⟨by omega, hOk⟩ (by omega) (fun hi => ?_)
    obtain ⟨q2, eq2⟩ : ∃ q, q = f_Day_sortUnits_L12 pri k4 (k4 + 1) k4 (f_Day_sortUnits_L2 pri ord k4) := ⟨_, rfl⟩
    rw [← eq2]
    rw [← eq2] at hi
    have hv_d : isV (ov h d (dayL d H U res dem kin low hig pri sta ups dow onn q2.2 flo sro sco)) d (dayL d H U res dem kin low hig pri sta ups dow onn q2.2 flo sro sco) := ov_isV
    refine r_aload_n X 0 dX2_sortUnits_58 rfl ?_
    refine gf_X2_39 X dX2_sortUnits_59 (hv_d 0 _ rfl) rfl ?_
    refine r_iload_n X 2 dX2_sortUnits_62 rfl ?_
    refine r_iload_n X 1 dX2_sortUnits_63 rfl ?_
    refine r_iastn X (k0 := q2.1) dX2_sortUnits_64 (hv_d 10 _ rfl) (by first | omega | exact hi.2 _ (by omega)) (by first | decide | omega) ?_
    refine SW.heq (h2 := (ov h d (dayL d H U res dem kin low hig pri sta ups dow onn (va_up q2.2 q2.1 k4) flo sro sco))) (by rw [show upd (fun j => nI (q2.2 j)) q2.1 (nI k4) = _ from updN q2.2 q2.1 k4]; exact ov_up 10 (Nat.le_of_ble_eq_true rfl) rfl) ?_
    have hv_d : isV (ov h d (dayL d H U res dem kin low hig pri sta ups dow onn (va_up q2.2 q2.1 k4) flo sro sco)) d (dayL d H U res dem kin low hig pri sta ups dow onn (va_up q2.2 q2.1 k4) flo sro sco) := ov_isV
    refine r_iinc [(0, .ref d), (1, .int (nI (k4 + 1))), (2, .int (nI q2.1))] X (nI (k4 + 1)) 1 dX2_sortUnits_65 rfl (nI_succ _).symm (by decide) rfl ?_
    refine r_goto X 2 dX2_sortUnits_68 rfl ?_
    refine SW.pick [0, 1] [(0, .ref d), (1, .int (nI (k4 + 1)))] rfl ?_
    subst eq2
    exact ih
  have hOk : ∀ j, j < 4 → f_Day_sortUnits_L2 pri ord U j < 4 := sortUnits_lt hO U (by omega)
  have hv_d : isV (ov h d (dayL d H U res dem kin low hig pri sta ups dow onn (f_Day_sortUnits_L2 pri ord U) flo sro sco)) d (dayL d H U res dem kin low hig pri sta ups dow onn (f_Day_sortUnits_L2 pri ord U) flo sro sco) := ov_isV
  refine r_iload_n X 1 dX2_sortUnits_2 rfl ?_
  refine r_aload_n X 0 dX2_sortUnits_3 rfl ?_
  refine gf_X2_55 X dX2_sortUnits_4 (hv_d 0 _ rfl) rfl ?_
  refine r_icmp_ge X 71 dX2_sortUnits_7 rfl (fun _ => ?_) (fun z => absurd z (nI_nlt (a := U) (b := U) (by omega) (by omega)))
  try subst hf
  exact r_return X Y dX2_sortUnits_71 rfl rfl

def f_Day_settle_L2s (kin : Nat → Int32) (low : Nat → Int32) (hig : Nat → Int32) (sta : Nat → Int32) (k2 : Nat) (flo : Nat → Int32) (sro : Nat → Int32) (sco : Nat → Int32) : (Nat → Int32) × (Nat → Int32) × (Nat → Int32) := (upd flo k2 (if (if (kin k2) = (4 : Int32) then (1 : Int32) else if (kin k2) = (5 : Int32) then (1 : Int32) else (0 : Int32)) = (0 : Int32) then low k2 else (0 : Int32)), upd sro k2 (if (kin k2) = (3 : Int32) then low k2 else hig k2), upd sco k2 (if (if (kin k2) = (4 : Int32) then (1 : Int32) else if (kin k2) = (5 : Int32) then (1 : Int32) else (0 : Int32)) = (0 : Int32) then if (kin k2) = (2 : Int32) then (sta k2) / (2 : Int32) else sta k2 else (0 : Int32)))
def f_Day_settle_L2 (kin : Nat → Int32) (low : Nat → Int32) (hig : Nat → Int32) (sta : Nat → Int32) (flo : Nat → Int32) (sro : Nat → Int32) (sco : Nat → Int32) : Nat → (Nat → Int32) × (Nat → Int32) × (Nat → Int32)
  | 0 => (flo, sro, sco)
  | k2 + 1 => f_Day_settle_L2s kin low hig sta k2 ((f_Day_settle_L2 kin low hig sta flo sro sco k2).1) ((f_Day_settle_L2 kin low hig sta flo sro sco k2).2.1) ((f_Day_settle_L2 kin low hig sta flo sro sco k2).2.2)
def f_Day_settle (U : Nat) (kin : Nat → Int32) (low : Nat → Int32) (hig : Nat → Int32) (pri : Nat → Int32) (sta : Nat → Int32) (ord : Nat → Nat) (flo : Nat → Int32) (sro : Nat → Int32) (sco : Nat → Int32) : (Nat → Nat) × (Nat → Int32) × (Nat → Int32) × (Nat → Int32) := ((fun q1 => ((fun q2 => (q2, q1.1, q1.2.1, q1.2.2)) (f_Day_sortUnits U pri ord))) (f_Day_settle_L2 kin low hig sta flo sro sco U))
set_option maxRecDepth 20000 in
set_option maxHeartbeats 4000000 in
theorem c_Day_settle {G : mG} {h : mHp} {d : Nat} {H : Nat} {U : Nat} {res : Int32} {dem : Nat → Int32} {kin : Nat → Int32} {low : Nat → Int32} {hig : Nat → Int32} {pri : Nat → Int32} {sta : Nat → Int32} {ups : Nat → Int32} {dow : Nat → Int32} {onn : Nat → Int32} {ord : Nat → Nat} {flo : Nat → Int32} {sro : Nat → Int32} {sco : Nat → Int32}   (hU : U ≤ 4) (hO : ∀ j, j < 4 → ord j < 4) : Ret G 1 mX2_settle [.ref d] (ov h d (dayL d H U res dem kin low hig pri sta ups dow onn ord flo sro sco)) none (ov h d (dayL d H U res dem kin low hig pri sta ups dow onn (f_Day_settle U kin low hig pri sta ord flo sro sco).1 (f_Day_settle U kin low hig pri sta ord flo sro sco).2.1 (f_Day_settle U kin low hig pri sta ord flo sro sco).2.2.1 (f_Day_settle U kin low hig pri sta ord flo sro sco).2.2.2)) := by
  generalize hf : f_Day_settle U kin low hig pri sta ord flo sro sco = R
  unfold f_Day_settle at hf
  refine Ret.of [(0, .ref d)] (by decide) (Nat.le_of_ble_eq_true rfl) rfl ?_
  rintro Z rfl X Y
  have hv_d : isV (ov h d (dayL d H U res dem kin low hig pri sta ups dow onn ord flo sro sco)) d (dayL d H U res dem kin low hig pri sta ups dow onn ord flo sro sco) := ov_isV
  refine r_iconst X (0 : Int32) dX2_settle_0 (by decide) ?_
  refine r_istore_n [(0, .ref d), (1, .int (0 : Int32))] X dX2_settle_1 rfl (by decide) rfl ?_
  refine loop_up (P := fun k7 => SW Z 2 [(0, .ref d), (1, .int (nI k7))] [] (ov h d (dayL d H U res dem kin low hig pri sta ups dow onn ord ((f_Day_settle_L2 kin low hig sta flo sro sco k7).1) ((f_Day_settle_L2 kin low hig sta flo sro sco k7).2.1) ((f_Day_settle_L2 kin low hig sta flo sro sco k7).2.2)))) U ?_ ?_ 0 (Nat.zero_le _)
  rotate_left
  · intro k7 hk7 ih
    have hv_d : isV (ov h d (dayL d H U res dem kin low hig pri sta ups dow onn ord ((f_Day_settle_L2 kin low hig sta flo sro sco k7).1) ((f_Day_settle_L2 kin low hig sta flo sro sco k7).2.1) ((f_Day_settle_L2 kin low hig sta flo sro sco k7).2.2))) d (dayL d H U res dem kin low hig pri sta ups dow onn ord ((f_Day_settle_L2 kin low hig sta flo sro sco k7).1) ((f_Day_settle_L2 kin low hig sta flo sro sco k7).2.1) ((f_Day_settle_L2 kin low hig sta flo sro sco k7).2.2)) := ov_isV
    refine r_iload_n X 1 dX2_settle_2 rfl ?_
    refine r_aload_n X 0 dX2_settle_3 rfl ?_
    refine gf_X2_55 X dX2_settle_4 (hv_d 0 _ rfl) rfl ?_
    refine r_icmp_ge X 134 dX2_settle_7 rfl (fun z => absurd (nI_lt (a := k7) (b := U) (by omega) (by omega)) z) (fun _ => ?_)
    refine r_aload_n X 0 dX2_settle_10 rfl ?_
    refine gf_X2_15 X dX2_settle_11 (hv_d 0 _ rfl) rfl ?_
    refine r_iload_n X 1 dX2_settle_14 rfl ?_
    refine r_ialdn X (k0 := k7) dX2_settle_15 (hv_d 2 _ rfl) (by omega) (by decide) ?_
    refine r_iconst X (4 : Int32) dX2_settle_16 (by decide) ?_
    refine m_join (P := SW Z 35 [(0, .ref d), (1, .int (nI k7))] [.int (if (kin k7) = (4 : Int32) then (1 : Int32) else if (kin k7) = (5 : Int32) then (1 : Int32) else (0 : Int32))] (ov h d (dayL d H U res dem kin low hig pri sta ups dow onn ord ((f_Day_settle_L2 kin low hig sta flo sro sco k7).1) ((f_Day_settle_L2 kin low hig sta flo sro sco k7).2.1) ((f_Day_settle_L2 kin low hig sta flo sro sco k7).2.2)))) (fun K => ?_) ?_
    · refine r_icmp_eq X 30 dX2_settle_17 rfl (fun c8 => ?_) (fun c8 => ?_)
      · skip
        refine r_iconst X (1 : Int32) dX2_settle_30 (by decide) ?_
        refine r_goto X 35 dX2_settle_31 rfl ?_
        try simp only [if_pos c8] at K ⊢
        exact K
      · skip
        refine r_aload_n X 0 dX2_settle_20 rfl ?_
        refine gf_X2_15 X dX2_settle_21 (hv_d 0 _ rfl) rfl ?_
        refine r_iload_n X 1 dX2_settle_24 rfl ?_
        refine r_ialdn X (k0 := k7) dX2_settle_25 (hv_d 2 _ rfl) (by omega) (by decide) ?_
        refine r_iconst X (5 : Int32) dX2_settle_26 (by decide) ?_
        refine m_join (P := SW Z 35 [(0, .ref d), (1, .int (nI k7))] [.int (if (kin k7) = (5 : Int32) then (1 : Int32) else (0 : Int32))] (ov h d (dayL d H U res dem kin low hig pri sta ups dow onn ord ((f_Day_settle_L2 kin low hig sta flo sro sco k7).1) ((f_Day_settle_L2 kin low hig sta flo sro sco k7).2.1) ((f_Day_settle_L2 kin low hig sta flo sro sco k7).2.2)))) (fun K => ?_) ?_
        · refine r_icmp_ne X 34 dX2_settle_27 rfl (fun c9 => ?_) (fun c9 => ?_)
          · skip
            refine r_iconst X (0 : Int32) dX2_settle_34 (by decide) ?_
            try simp only [if_neg c9] at K ⊢
            exact K
          · skip
            refine r_iconst X (1 : Int32) dX2_settle_30 (by decide) ?_
            refine r_goto X 35 dX2_settle_31 rfl ?_
            try simp only [if_pos c9] at K ⊢
            exact K
        have hv_d : isV (ov h d (dayL d H U res dem kin low hig pri sta ups dow onn ord ((f_Day_settle_L2 kin low hig sta flo sro sco k7).1) ((f_Day_settle_L2 kin low hig sta flo sro sco k7).2.1) ((f_Day_settle_L2 kin low hig sta flo sro sco k7).2.2))) d (dayL d H U res dem kin low hig pri sta ups dow onn ord ((f_Day_settle_L2 kin low hig sta flo sro sco k7).1) ((f_Day_settle_L2 kin low hig sta flo sro sco k7).2.1) ((f_Day_settle_L2 kin low hig sta flo sro sco k7).2.2)) := ov_isV
        try simp only [if_neg c8] at K ⊢
        exact K
    have hv_d : isV (ov h d (dayL d H U res dem kin low hig pri sta ups dow onn ord ((f_Day_settle_L2 kin low hig sta flo sro sco k7).1) ((f_Day_settle_L2 kin low hig sta flo sro sco k7).2.1) ((f_Day_settle_L2 kin low hig sta flo sro sco k7).2.2))) d (dayL d H U res dem kin low hig pri sta ups dow onn ord ((f_Day_settle_L2 kin low hig sta flo sro sco k7).1) ((f_Day_settle_L2 kin low hig sta flo sro sco k7).2.1) ((f_Day_settle_L2 kin low hig sta flo sro sco k7).2.2)) := ov_isV
    refine r_istore_n [(0, .ref d), (1, .int (nI k7)), (2, .int (if (kin k7) = (4 : Int32) then (1 : Int32) else if (kin k7) = (5 : Int32) then (1 : Int32) else (0 : Int32)))] X dX2_settle_35 rfl (by decide) rfl ?_
    refine r_aload_n X 0 dX2_settle_36 rfl ?_
    refine gf_X2_42 X dX2_settle_37 (hv_d 0 _ rfl) rfl ?_
    refine r_iload_n X 1 dX2_settle_40 rfl ?_
    refine r_iload_n X 2 dX2_settle_41 rfl ?_
    refine m_join (P := SW Z 55 [(0, .ref d), (1, .int (nI k7)), (2, .int (if (kin k7) = (4 : Int32) then (1 : Int32) else if (kin k7) = (5 : Int32) then (1 : Int32) else (0 : Int32)))] [.int (if (if (kin k7) = (4 : Int32) then (1 : Int32) else if (kin k7) = (5 : Int32) then (1 : Int32) else (0 : Int32)) = (0 : Int32) then low k7 else (0 : Int32)), .int (nI k7), .ref (d + 11)] (ov h d (dayL d H U res dem kin low hig pri sta ups dow onn ord ((f_Day_settle_L2 kin low hig sta flo sro sco k7).1) ((f_Day_settle_L2 kin low hig sta flo sro sco k7).2.1) ((f_Day_settle_L2 kin low hig sta flo sro sco k7).2.2)))) (fun K => ?_) ?_
    · refine r_if_eq X 49 dX2_settle_42 rfl (fun c10 => ?_) (fun c10 => ?_)
      · skip
        refine r_aload_n X 0 dX2_settle_49 rfl ?_
        refine gf_X2_18 X dX2_settle_50 (hv_d 0 _ rfl) rfl ?_
        refine r_iload_n X 1 dX2_settle_53 rfl ?_
        refine r_ialdn X (k0 := k7) dX2_settle_54 (hv_d 3 _ rfl) (by omega) (by decide) ?_
        try simp only [if_pos c10] at K ⊢
        exact K
      · skip
        refine r_iconst X (0 : Int32) dX2_settle_45 (by decide) ?_
        refine r_goto X 55 dX2_settle_46 rfl ?_
        try simp only [if_neg c10] at K ⊢
        exact K
    have hv_d : isV (ov h d (dayL d H U res dem kin low hig pri sta ups dow onn ord ((f_Day_settle_L2 kin low hig sta flo sro sco k7).1) ((f_Day_settle_L2 kin low hig sta flo sro sco k7).2.1) ((f_Day_settle_L2 kin low hig sta flo sro sco k7).2.2))) d (dayL d H U res dem kin low hig pri sta ups dow onn ord ((f_Day_settle_L2 kin low hig sta flo sro sco k7).1) ((f_Day_settle_L2 kin low hig sta flo sro sco k7).2.1) ((f_Day_settle_L2 kin low hig sta flo sro sco k7).2.2)) := ov_isV
    refine r_iastn X (k0 := k7) dX2_settle_55 (hv_d 11 _ rfl) (by omega) (by first | decide | omega) ?_
    refine SW.heq (h2 := (ov h d (dayL d H U res dem kin low hig pri sta ups dow onn ord (upd ((f_Day_settle_L2 kin low hig sta flo sro sco k7).1) k7 (if (if (kin k7) = (4 : Int32) then (1 : Int32) else if (kin k7) = (5 : Int32) then (1 : Int32) else (0 : Int32)) = (0 : Int32) then low k7 else (0 : Int32))) ((f_Day_settle_L2 kin low hig sta flo sro sco k7).2.1) ((f_Day_settle_L2 kin low hig sta flo sro sco k7).2.2)))) (ov_up 11 (Nat.le_of_ble_eq_true rfl) rfl) ?_
    have hv_d : isV (ov h d (dayL d H U res dem kin low hig pri sta ups dow onn ord (upd ((f_Day_settle_L2 kin low hig sta flo sro sco k7).1) k7 (if (if (kin k7) = (4 : Int32) then (1 : Int32) else if (kin k7) = (5 : Int32) then (1 : Int32) else (0 : Int32)) = (0 : Int32) then low k7 else (0 : Int32))) ((f_Day_settle_L2 kin low hig sta flo sro sco k7).2.1) ((f_Day_settle_L2 kin low hig sta flo sro sco k7).2.2))) d (dayL d H U res dem kin low hig pri sta ups dow onn ord (upd ((f_Day_settle_L2 kin low hig sta flo sro sco k7).1) k7 (if (if (kin k7) = (4 : Int32) then (1 : Int32) else if (kin k7) = (5 : Int32) then (1 : Int32) else (0 : Int32)) = (0 : Int32) then low k7 else (0 : Int32))) ((f_Day_settle_L2 kin low hig sta flo sro sco k7).2.1) ((f_Day_settle_L2 kin low hig sta flo sro sco k7).2.2)) := ov_isV
    refine r_aload_n X 0 dX2_settle_56 rfl ?_
    refine gf_X2_45 X dX2_settle_57 (hv_d 0 _ rfl) rfl ?_
    refine r_iload_n X 1 dX2_settle_60 rfl ?_
    refine r_aload_n X 0 dX2_settle_61 rfl ?_
    refine gf_X2_15 X dX2_settle_62 (hv_d 0 _ rfl) rfl ?_
    refine r_iload_n X 1 dX2_settle_65 rfl ?_
    refine r_ialdn X (k0 := k7) dX2_settle_66 (hv_d 2 _ rfl) (by omega) (by decide) ?_
    refine r_iconst X (3 : Int32) dX2_settle_67 (by decide) ?_
    refine m_join (P := SW Z 86 [(0, .ref d), (1, .int (nI k7)), (2, .int (if (kin k7) = (4 : Int32) then (1 : Int32) else if (kin k7) = (5 : Int32) then (1 : Int32) else (0 : Int32)))] [.int (if (kin k7) = (3 : Int32) then low k7 else hig k7), .int (nI k7), .ref (d + 12)] (ov h d (dayL d H U res dem kin low hig pri sta ups dow onn ord (upd ((f_Day_settle_L2 kin low hig sta flo sro sco k7).1) k7 (if (if (kin k7) = (4 : Int32) then (1 : Int32) else if (kin k7) = (5 : Int32) then (1 : Int32) else (0 : Int32)) = (0 : Int32) then low k7 else (0 : Int32))) ((f_Day_settle_L2 kin low hig sta flo sro sco k7).2.1) ((f_Day_settle_L2 kin low hig sta flo sro sco k7).2.2)))) (fun K => ?_) ?_
    · refine r_icmp_ne X 80 dX2_settle_68 rfl (fun c11 => ?_) (fun c11 => ?_)
      · skip
        refine r_aload_n X 0 dX2_settle_80 rfl ?_
        refine gf_X2_21 X dX2_settle_81 (hv_d 0 _ rfl) rfl ?_
        refine r_iload_n X 1 dX2_settle_84 rfl ?_
        refine r_ialdn X (k0 := k7) dX2_settle_85 (hv_d 4 _ rfl) (by omega) (by decide) ?_
        try simp only [if_neg c11] at K ⊢
        exact K
      · skip
        refine r_aload_n X 0 dX2_settle_71 rfl ?_
        refine gf_X2_18 X dX2_settle_72 (hv_d 0 _ rfl) rfl ?_
        refine r_iload_n X 1 dX2_settle_75 rfl ?_
        refine r_ialdn X (k0 := k7) dX2_settle_76 (hv_d 3 _ rfl) (by omega) (by decide) ?_
        refine r_goto X 86 dX2_settle_77 rfl ?_
        try simp only [if_pos c11] at K ⊢
        exact K
    have hv_d : isV (ov h d (dayL d H U res dem kin low hig pri sta ups dow onn ord (upd ((f_Day_settle_L2 kin low hig sta flo sro sco k7).1) k7 (if (if (kin k7) = (4 : Int32) then (1 : Int32) else if (kin k7) = (5 : Int32) then (1 : Int32) else (0 : Int32)) = (0 : Int32) then low k7 else (0 : Int32))) ((f_Day_settle_L2 kin low hig sta flo sro sco k7).2.1) ((f_Day_settle_L2 kin low hig sta flo sro sco k7).2.2))) d (dayL d H U res dem kin low hig pri sta ups dow onn ord (upd ((f_Day_settle_L2 kin low hig sta flo sro sco k7).1) k7 (if (if (kin k7) = (4 : Int32) then (1 : Int32) else if (kin k7) = (5 : Int32) then (1 : Int32) else (0 : Int32)) = (0 : Int32) then low k7 else (0 : Int32))) ((f_Day_settle_L2 kin low hig sta flo sro sco k7).2.1) ((f_Day_settle_L2 kin low hig sta flo sro sco k7).2.2)) := ov_isV
    refine r_iastn X (k0 := k7) dX2_settle_86 (hv_d 12 _ rfl) (by omega) (by first | decide | omega) ?_
    refine SW.heq (h2 := (ov h d (dayL d H U res dem kin low hig pri sta ups dow onn ord (upd ((f_Day_settle_L2 kin low hig sta flo sro sco k7).1) k7 (if (if (kin k7) = (4 : Int32) then (1 : Int32) else if (kin k7) = (5 : Int32) then (1 : Int32) else (0 : Int32)) = (0 : Int32) then low k7 else (0 : Int32))) (upd ((f_Day_settle_L2 kin low hig sta flo sro sco k7).2.1) k7 (if (kin k7) = (3 : Int32) then low k7 else hig k7)) ((f_Day_settle_L2 kin low hig sta flo sro sco k7).2.2)))) (ov_up 12 (Nat.le_of_ble_eq_true rfl) rfl) ?_
    have hv_d : isV (ov h d (dayL d H U res dem kin low hig pri sta ups dow onn ord (upd ((f_Day_settle_L2 kin low hig sta flo sro sco k7).1) k7 (if (if (kin k7) = (4 : Int32) then (1 : Int32) else if (kin k7) = (5 : Int32) then (1 : Int32) else (0 : Int32)) = (0 : Int32) then low k7 else (0 : Int32))) (upd ((f_Day_settle_L2 kin low hig sta flo sro sco k7).2.1) k7 (if (kin k7) = (3 : Int32) then low k7 else hig k7)) ((f_Day_settle_L2 kin low hig sta flo sro sco k7).2.2))) d (dayL d H U res dem kin low hig pri sta ups dow onn ord (upd ((f_Day_settle_L2 kin low hig sta flo sro sco k7).1) k7 (if (if (kin k7) = (4 : Int32) then (1 : Int32) else if (kin k7) = (5 : Int32) then (1 : Int32) else (0 : Int32)) = (0 : Int32) then low k7 else (0 : Int32))) (upd ((f_Day_settle_L2 kin low hig sta flo sro sco k7).2.1) k7 (if (kin k7) = (3 : Int32) then low k7 else hig k7)) ((f_Day_settle_L2 kin low hig sta flo sro sco k7).2.2)) := ov_isV
    refine r_aload_n X 0 dX2_settle_87 rfl ?_
    refine gf_X2_48 X dX2_settle_88 (hv_d 0 _ rfl) rfl ?_
    refine r_iload_n X 1 dX2_settle_91 rfl ?_
    refine r_iload_n X 2 dX2_settle_92 rfl ?_
    refine m_join (P := SW Z 127 [(0, .ref d), (1, .int (nI k7))] [.int (if (if (kin k7) = (4 : Int32) then (1 : Int32) else if (kin k7) = (5 : Int32) then (1 : Int32) else (0 : Int32)) = (0 : Int32) then if (kin k7) = (2 : Int32) then (sta k7) / (2 : Int32) else sta k7 else (0 : Int32)), .int (nI k7), .ref (d + 13)] (ov h d (dayL d H U res dem kin low hig pri sta ups dow onn ord (upd ((f_Day_settle_L2 kin low hig sta flo sro sco k7).1) k7 (if (if (kin k7) = (4 : Int32) then (1 : Int32) else if (kin k7) = (5 : Int32) then (1 : Int32) else (0 : Int32)) = (0 : Int32) then low k7 else (0 : Int32))) (upd ((f_Day_settle_L2 kin low hig sta flo sro sco k7).2.1) k7 (if (kin k7) = (3 : Int32) then low k7 else hig k7)) ((f_Day_settle_L2 kin low hig sta flo sro sco k7).2.2)))) (fun K => ?_) ?_
    · refine r_if_eq X 100 dX2_settle_93 rfl (fun c12 => ?_) (fun c12 => ?_)
      · skip
        refine r_aload_n X 0 dX2_settle_100 rfl ?_
        refine gf_X2_15 X dX2_settle_101 (hv_d 0 _ rfl) rfl ?_
        refine r_iload_n X 1 dX2_settle_104 rfl ?_
        refine r_ialdn X (k0 := k7) dX2_settle_105 (hv_d 2 _ rfl) (by omega) (by decide) ?_
        refine r_iconst X (2 : Int32) dX2_settle_106 (by decide) ?_
        refine m_join (P := SW Z 127 [(0, .ref d), (1, .int (nI k7))] [.int (if (kin k7) = (2 : Int32) then (sta k7) / (2 : Int32) else sta k7), .int (nI k7), .ref (d + 13)] (ov h d (dayL d H U res dem kin low hig pri sta ups dow onn ord (upd ((f_Day_settle_L2 kin low hig sta flo sro sco k7).1) k7 (if (if (kin k7) = (4 : Int32) then (1 : Int32) else if (kin k7) = (5 : Int32) then (1 : Int32) else (0 : Int32)) = (0 : Int32) then low k7 else (0 : Int32))) (upd ((f_Day_settle_L2 kin low hig sta flo sro sco k7).2.1) k7 (if (kin k7) = (3 : Int32) then low k7 else hig k7)) ((f_Day_settle_L2 kin low hig sta flo sro sco k7).2.2)))) (fun K => ?_) ?_
        · refine r_icmp_ne X 121 dX2_settle_107 rfl (fun c13 => ?_) (fun c13 => ?_)
          · skip
            refine r_aload_n X 0 dX2_settle_121 rfl ?_
            refine gf_X2_27 X dX2_settle_122 (hv_d 0 _ rfl) rfl ?_
            refine r_iload_n X 1 dX2_settle_125 rfl ?_
            refine r_ialdn X (k0 := k7) dX2_settle_126 (hv_d 6 _ rfl) (by omega) (by decide) ?_
            refine SW.pick [0, 1] [(0, .ref d), (1, .int (nI k7))] rfl ?_
            try simp only [if_neg c13] at K ⊢
            exact K
          · skip
            refine r_aload_n X 0 dX2_settle_110 rfl ?_
            refine gf_X2_27 X dX2_settle_111 (hv_d 0 _ rfl) rfl ?_
            refine r_iload_n X 1 dX2_settle_114 rfl ?_
            refine r_ialdn X (k0 := k7) dX2_settle_115 (hv_d 6 _ rfl) (by omega) (by decide) ?_
            refine r_iconst X (2 : Int32) dX2_settle_116 (by decide) ?_
            refine r_idiv X dX2_settle_117 (by decide) ?_
            refine r_goto X 127 dX2_settle_118 rfl ?_
            refine SW.pick [0, 1] [(0, .ref d), (1, .int (nI k7))] rfl ?_
            try simp only [if_pos c13] at K ⊢
            exact K
        have hv_d : isV (ov h d (dayL d H U res dem kin low hig pri sta ups dow onn ord (upd ((f_Day_settle_L2 kin low hig sta flo sro sco k7).1) k7 (if (if (kin k7) = (4 : Int32) then (1 : Int32) else if (kin k7) = (5 : Int32) then (1 : Int32) else (0 : Int32)) = (0 : Int32) then low k7 else (0 : Int32))) (upd ((f_Day_settle_L2 kin low hig sta flo sro sco k7).2.1) k7 (if (kin k7) = (3 : Int32) then low k7 else hig k7)) ((f_Day_settle_L2 kin low hig sta flo sro sco k7).2.2))) d (dayL d H U res dem kin low hig pri sta ups dow onn ord (upd ((f_Day_settle_L2 kin low hig sta flo sro sco k7).1) k7 (if (if (kin k7) = (4 : Int32) then (1 : Int32) else if (kin k7) = (5 : Int32) then (1 : Int32) else (0 : Int32)) = (0 : Int32) then low k7 else (0 : Int32))) (upd ((f_Day_settle_L2 kin low hig sta flo sro sco k7).2.1) k7 (if (kin k7) = (3 : Int32) then low k7 else hig k7)) ((f_Day_settle_L2 kin low hig sta flo sro sco k7).2.2)) := ov_isV
        try simp only [if_pos c12] at K ⊢
        exact K
      · skip
        refine r_iconst X (0 : Int32) dX2_settle_96 (by decide) ?_
        refine r_goto X 127 dX2_settle_97 rfl ?_
        refine SW.pick [0, 1] [(0, .ref d), (1, .int (nI k7))] rfl ?_
        try simp only [if_neg c12] at K ⊢
        exact K
    have hv_d : isV (ov h d (dayL d H U res dem kin low hig pri sta ups dow onn ord (upd ((f_Day_settle_L2 kin low hig sta flo sro sco k7).1) k7 (if (if (kin k7) = (4 : Int32) then (1 : Int32) else if (kin k7) = (5 : Int32) then (1 : Int32) else (0 : Int32)) = (0 : Int32) then low k7 else (0 : Int32))) (upd ((f_Day_settle_L2 kin low hig sta flo sro sco k7).2.1) k7 (if (kin k7) = (3 : Int32) then low k7 else hig k7)) ((f_Day_settle_L2 kin low hig sta flo sro sco k7).2.2))) d (dayL d H U res dem kin low hig pri sta ups dow onn ord (upd ((f_Day_settle_L2 kin low hig sta flo sro sco k7).1) k7 (if (if (kin k7) = (4 : Int32) then (1 : Int32) else if (kin k7) = (5 : Int32) then (1 : Int32) else (0 : Int32)) = (0 : Int32) then low k7 else (0 : Int32))) (upd ((f_Day_settle_L2 kin low hig sta flo sro sco k7).2.1) k7 (if (kin k7) = (3 : Int32) then low k7 else hig k7)) ((f_Day_settle_L2 kin low hig sta flo sro sco k7).2.2)) := ov_isV
    refine r_iastn X (k0 := k7) dX2_settle_127 (hv_d 13 _ rfl) (by omega) (by first | decide | omega) ?_
    refine SW.heq (h2 := (ov h d (dayL d H U res dem kin low hig pri sta ups dow onn ord (upd ((f_Day_settle_L2 kin low hig sta flo sro sco k7).1) k7 (if (if (kin k7) = (4 : Int32) then (1 : Int32) else if (kin k7) = (5 : Int32) then (1 : Int32) else (0 : Int32)) = (0 : Int32) then low k7 else (0 : Int32))) (upd ((f_Day_settle_L2 kin low hig sta flo sro sco k7).2.1) k7 (if (kin k7) = (3 : Int32) then low k7 else hig k7)) (upd ((f_Day_settle_L2 kin low hig sta flo sro sco k7).2.2) k7 (if (if (kin k7) = (4 : Int32) then (1 : Int32) else if (kin k7) = (5 : Int32) then (1 : Int32) else (0 : Int32)) = (0 : Int32) then if (kin k7) = (2 : Int32) then (sta k7) / (2 : Int32) else sta k7 else (0 : Int32)))))) (ov_up 13 (Nat.le_of_ble_eq_true rfl) rfl) ?_
    have hv_d : isV (ov h d (dayL d H U res dem kin low hig pri sta ups dow onn ord (upd ((f_Day_settle_L2 kin low hig sta flo sro sco k7).1) k7 (if (if (kin k7) = (4 : Int32) then (1 : Int32) else if (kin k7) = (5 : Int32) then (1 : Int32) else (0 : Int32)) = (0 : Int32) then low k7 else (0 : Int32))) (upd ((f_Day_settle_L2 kin low hig sta flo sro sco k7).2.1) k7 (if (kin k7) = (3 : Int32) then low k7 else hig k7)) (upd ((f_Day_settle_L2 kin low hig sta flo sro sco k7).2.2) k7 (if (if (kin k7) = (4 : Int32) then (1 : Int32) else if (kin k7) = (5 : Int32) then (1 : Int32) else (0 : Int32)) = (0 : Int32) then if (kin k7) = (2 : Int32) then (sta k7) / (2 : Int32) else sta k7 else (0 : Int32))))) d (dayL d H U res dem kin low hig pri sta ups dow onn ord (upd ((f_Day_settle_L2 kin low hig sta flo sro sco k7).1) k7 (if (if (kin k7) = (4 : Int32) then (1 : Int32) else if (kin k7) = (5 : Int32) then (1 : Int32) else (0 : Int32)) = (0 : Int32) then low k7 else (0 : Int32))) (upd ((f_Day_settle_L2 kin low hig sta flo sro sco k7).2.1) k7 (if (kin k7) = (3 : Int32) then low k7 else hig k7)) (upd ((f_Day_settle_L2 kin low hig sta flo sro sco k7).2.2) k7 (if (if (kin k7) = (4 : Int32) then (1 : Int32) else if (kin k7) = (5 : Int32) then (1 : Int32) else (0 : Int32)) = (0 : Int32) then if (kin k7) = (2 : Int32) then (sta k7) / (2 : Int32) else sta k7 else (0 : Int32)))) := ov_isV
    refine r_iinc [(0, .ref d), (1, .int (nI (k7 + 1)))] X (nI (k7 + 1)) 1 dX2_settle_128 rfl (nI_succ _).symm (by decide) rfl ?_
    refine r_goto X 2 dX2_settle_131 rfl ?_
    exact ih
  obtain ⟨q1, eq1⟩ : ∃ q, q = f_Day_settle_L2 kin low hig sta flo sro sco U := ⟨_, rfl⟩
  rw [← eq1]
  rw [← eq1] at hf
  try dsimp only at hf
  have hv_d : isV (ov h d (dayL d H U res dem kin low hig pri sta ups dow onn ord q1.1 q1.2.1 q1.2.2)) d (dayL d H U res dem kin low hig pri sta ups dow onn ord q1.1 q1.2.1 q1.2.2) := ov_isV
  refine r_iload_n X 1 dX2_settle_2 rfl ?_
  refine r_aload_n X 0 dX2_settle_3 rfl ?_
  refine gf_X2_55 X dX2_settle_4 (hv_d 0 _ rfl) rfl ?_
  refine r_icmp_ge X 134 dX2_settle_7 rfl (fun _ => ?_) (fun z => absurd z (nI_nlt (a := U) (b := U) (by omega) (by omega)))
  refine r_aload_n X 0 dX2_settle_134 rfl ?_
  refine cl_X2_70 X (by decide) dX2_settle_135 (Nat.le_of_ble_eq_true rfl) (hv_d 0 _ rfl) (c_Day_sortUnits  (by first | assumption | omega) (by first | assumption | omega)) ?_
  obtain ⟨q2, eq2⟩ : ∃ q, q = f_Day_sortUnits U pri ord := ⟨_, rfl⟩
  rw [← eq2]
  rw [← eq2] at hf
  try dsimp only at hf
  have hv_d : isV (ov h d (dayL d H U res dem kin low hig pri sta ups dow onn q2 q1.1 q1.2.1 q1.2.2)) d (dayL d H U res dem kin low hig pri sta ups dow onn q2 q1.1 q1.2.1 q1.2.2) := ov_isV
  try subst hf
  exact r_return X Y dX2_settle_138 rfl rfl

def f_Day_putPrice (U : Nat) (kin : Nat → Int32) (low : Nat → Int32) (hig : Nat → Int32) (pri : Nat → Int32) (sta : Nat → Int32) (ord : Nat → Nat) (flo : Nat → Int32) (sro : Nat → Int32) (sco : Nat → Int32) (u : Nat) (v : Int32) : (Nat → Int32) × (Nat → Nat) × (Nat → Int32) × (Nat → Int32) × (Nat → Int32) := ((fun q1 => (upd pri u v, q1.1, q1.2.1, q1.2.2.1, q1.2.2.2)) (f_Day_settle U kin low hig (upd pri u v) sta ord flo sro sco))
set_option maxRecDepth 20000 in
set_option maxHeartbeats 4000000 in
theorem c_Day_putPrice {G : mG} {h : mHp} {d : Nat} {H : Nat} {U : Nat} {res : Int32} {dem : Nat → Int32} {kin : Nat → Int32} {low : Nat → Int32} {hig : Nat → Int32} {pri : Nat → Int32} {sta : Nat → Int32} {ups : Nat → Int32} {dow : Nat → Int32} {onn : Nat → Int32} {ord : Nat → Nat} {flo : Nat → Int32} {sro : Nat → Int32} {sco : Nat → Int32} {u : Nat} {v : Int32}   (hU : U ≤ 4) (hO : ∀ j, j < 4 → ord j < 4) (hu : u < 4) : Ret G 2 mX2_putPrice [.ref d, .int (nI u), .int v] (ov h d (dayL d H U res dem kin low hig pri sta ups dow onn ord flo sro sco)) none (ov h d (dayL d H U res dem kin low hig (f_Day_putPrice U kin low hig pri sta ord flo sro sco u v).1 sta ups dow onn (f_Day_putPrice U kin low hig pri sta ord flo sro sco u v).2.1 (f_Day_putPrice U kin low hig pri sta ord flo sro sco u v).2.2.1 (f_Day_putPrice U kin low hig pri sta ord flo sro sco u v).2.2.2.1 (f_Day_putPrice U kin low hig pri sta ord flo sro sco u v).2.2.2.2)) := by
  generalize hf : f_Day_putPrice U kin low hig pri sta ord flo sro sco u v = R
  unfold f_Day_putPrice at hf
  refine Ret.of [(0, .ref d), (1, .int (nI u)), (2, .int v)] (by decide) (Nat.le_of_ble_eq_true rfl) rfl ?_
  rintro Z rfl X Y
  have hv_d : isV (ov h d (dayL d H U res dem kin low hig pri sta ups dow onn ord flo sro sco)) d (dayL d H U res dem kin low hig pri sta ups dow onn ord flo sro sco) := ov_isV
  refine r_aload_n X 0 dX2_putPrice_0 rfl ?_
  refine gf_X2_24 X dX2_putPrice_1 (hv_d 0 _ rfl) rfl ?_
  refine r_iload_n X 1 dX2_putPrice_4 rfl ?_
  refine r_iload_n X 2 dX2_putPrice_5 rfl ?_
  refine r_iastn X (k0 := u) dX2_putPrice_6 (hv_d 5 _ rfl) (by omega) (by first | decide | omega) ?_
  refine SW.heq (h2 := (ov h d (dayL d H U res dem kin low hig (upd pri u v) sta ups dow onn ord flo sro sco))) (ov_up 5 (Nat.le_of_ble_eq_true rfl) rfl) ?_
  have hv_d : isV (ov h d (dayL d H U res dem kin low hig (upd pri u v) sta ups dow onn ord flo sro sco)) d (dayL d H U res dem kin low hig (upd pri u v) sta ups dow onn ord flo sro sco) := ov_isV
  refine r_aload_n X 0 dX2_putPrice_7 rfl ?_
  refine cl_X2_67 X (by decide) dX2_putPrice_8 (Nat.le_of_ble_eq_true rfl) (hv_d 0 _ rfl) (c_Day_settle  (by first | assumption | omega) (by first | assumption | omega)) ?_
  obtain ⟨q1, eq1⟩ : ∃ q, q = f_Day_settle U kin low hig (upd pri u v) sta ord flo sro sco := ⟨_, rfl⟩
  rw [← eq1]
  rw [← eq1] at hf
  try dsimp only at hf
  have hv_d : isV (ov h d (dayL d H U res dem kin low hig (upd pri u v) sta ups dow onn q1.1 q1.2.1 q1.2.2.1 q1.2.2.2)) d (dayL d H U res dem kin low hig (upd pri u v) sta ups dow onn q1.1 q1.2.1 q1.2.2.1 q1.2.2.2) := ov_isV
  try subst hf
  exact r_return X Y dX2_putPrice_11 rfl rfl

def f_Day_putKind (U : Nat) (kin : Nat → Int32) (low : Nat → Int32) (hig : Nat → Int32) (pri : Nat → Int32) (sta : Nat → Int32) (ord : Nat → Nat) (flo : Nat → Int32) (sro : Nat → Int32) (sco : Nat → Int32) (u : Nat) (v : Int32) : (Nat → Int32) × (Nat → Nat) × (Nat → Int32) × (Nat → Int32) × (Nat → Int32) := ((fun q1 => (upd kin u v, q1.1, q1.2.1, q1.2.2.1, q1.2.2.2)) (f_Day_settle U (upd kin u v) low hig pri sta ord flo sro sco))
set_option maxRecDepth 20000 in
set_option maxHeartbeats 4000000 in
theorem c_Day_putKind {G : mG} {h : mHp} {d : Nat} {H : Nat} {U : Nat} {res : Int32} {dem : Nat → Int32} {kin : Nat → Int32} {low : Nat → Int32} {hig : Nat → Int32} {pri : Nat → Int32} {sta : Nat → Int32} {ups : Nat → Int32} {dow : Nat → Int32} {onn : Nat → Int32} {ord : Nat → Nat} {flo : Nat → Int32} {sro : Nat → Int32} {sco : Nat → Int32} {u : Nat} {v : Int32}   (hU : U ≤ 4) (hO : ∀ j, j < 4 → ord j < 4) (hu : u < 4) : Ret G 2 mX2_putKind [.ref d, .int (nI u), .int v] (ov h d (dayL d H U res dem kin low hig pri sta ups dow onn ord flo sro sco)) none (ov h d (dayL d H U res dem (f_Day_putKind U kin low hig pri sta ord flo sro sco u v).1 low hig pri sta ups dow onn (f_Day_putKind U kin low hig pri sta ord flo sro sco u v).2.1 (f_Day_putKind U kin low hig pri sta ord flo sro sco u v).2.2.1 (f_Day_putKind U kin low hig pri sta ord flo sro sco u v).2.2.2.1 (f_Day_putKind U kin low hig pri sta ord flo sro sco u v).2.2.2.2)) := by
  generalize hf : f_Day_putKind U kin low hig pri sta ord flo sro sco u v = R
  unfold f_Day_putKind at hf
  refine Ret.of [(0, .ref d), (1, .int (nI u)), (2, .int v)] (by decide) (Nat.le_of_ble_eq_true rfl) rfl ?_
  rintro Z rfl X Y
  have hv_d : isV (ov h d (dayL d H U res dem kin low hig pri sta ups dow onn ord flo sro sco)) d (dayL d H U res dem kin low hig pri sta ups dow onn ord flo sro sco) := ov_isV
  refine r_aload_n X 0 dX2_putKind_0 rfl ?_
  refine gf_X2_15 X dX2_putKind_1 (hv_d 0 _ rfl) rfl ?_
  refine r_iload_n X 1 dX2_putKind_4 rfl ?_
  refine r_iload_n X 2 dX2_putKind_5 rfl ?_
  refine r_iastn X (k0 := u) dX2_putKind_6 (hv_d 2 _ rfl) (by omega) (by first | decide | omega) ?_
  refine SW.heq (h2 := (ov h d (dayL d H U res dem (upd kin u v) low hig pri sta ups dow onn ord flo sro sco))) (ov_up 2 (Nat.le_of_ble_eq_true rfl) rfl) ?_
  have hv_d : isV (ov h d (dayL d H U res dem (upd kin u v) low hig pri sta ups dow onn ord flo sro sco)) d (dayL d H U res dem (upd kin u v) low hig pri sta ups dow onn ord flo sro sco) := ov_isV
  refine r_aload_n X 0 dX2_putKind_7 rfl ?_
  refine cl_X2_67 X (by decide) dX2_putKind_8 (Nat.le_of_ble_eq_true rfl) (hv_d 0 _ rfl) (c_Day_settle  (by first | assumption | omega) (by first | assumption | omega)) ?_
  obtain ⟨q1, eq1⟩ : ∃ q, q = f_Day_settle U (upd kin u v) low hig pri sta ord flo sro sco := ⟨_, rfl⟩
  rw [← eq1]
  rw [← eq1] at hf
  try dsimp only at hf
  have hv_d : isV (ov h d (dayL d H U res dem (upd kin u v) low hig pri sta ups dow onn q1.1 q1.2.1 q1.2.2.1 q1.2.2.2)) d (dayL d H U res dem (upd kin u v) low hig pri sta ups dow onn q1.1 q1.2.1 q1.2.2.1 q1.2.2.2) := ov_isV
  try subst hf
  exact r_return X Y dX2_putKind_11 rfl rfl

def f_Day_becomeLike (dem : Nat → Int32) (kin : Nat → Int32) (low : Nat → Int32) (hig : Nat → Int32) (pri : Nat → Int32) (sta : Nat → Int32) (ups : Nat → Int32) (dow : Nat → Int32) (onn : Nat → Int32) (ord : Nat → Nat) (flo : Nat → Int32) (sro : Nat → Int32) (sco : Nat → Int32) (H2 : Nat) (U2 : Nat) (res2 : Int32) (dem2 : Nat → Int32) (kin2 : Nat → Int32) (low2 : Nat → Int32) (hig2 : Nat → Int32) (pri2 : Nat → Int32) (sta2 : Nat → Int32) (ups2 : Nat → Int32) (dow2 : Nat → Int32) (onn2 : Nat → Int32) : Nat × Nat × Int32 × (Nat → Int32) × (Nat → Int32) × (Nat → Int32) × (Nat → Int32) × (Nat → Int32) × (Nat → Int32) × (Nat → Int32) × (Nat → Int32) × (Nat → Int32) × (Nat → Nat) × (Nat → Int32) × (Nat → Int32) × (Nat → Int32) := ((fun q1 => (H2, U2, res2, va_cpy dem2 dem 0 0 6, va_cpy kin2 kin 0 0 4, va_cpy low2 low 0 0 4, va_cpy hig2 hig 0 0 4, va_cpy pri2 pri 0 0 4, va_cpy sta2 sta 0 0 4, va_cpy ups2 ups 0 0 4, va_cpy dow2 dow 0 0 4, va_cpy onn2 onn 0 0 4, q1.1, q1.2.1, q1.2.2.1, q1.2.2.2)) (f_Day_settle U2 (va_cpy kin2 kin 0 0 4) (va_cpy low2 low 0 0 4) (va_cpy hig2 hig 0 0 4) (va_cpy pri2 pri 0 0 4) (va_cpy sta2 sta 0 0 4) ord flo sro sco))
set_option maxRecDepth 20000 in
set_option maxHeartbeats 4000000 in
theorem c_Day_becomeLike {G : mG} {h : mHp} {d : Nat} {o : Nat} {H : Nat} {U : Nat} {res : Int32} {dem : Nat → Int32} {kin : Nat → Int32} {low : Nat → Int32} {hig : Nat → Int32} {pri : Nat → Int32} {sta : Nat → Int32} {ups : Nat → Int32} {dow : Nat → Int32} {onn : Nat → Int32} {ord : Nat → Nat} {flo : Nat → Int32} {sro : Nat → Int32} {sco : Nat → Int32} {H2 : Nat} {U2 : Nat} {res2 : Int32} {dem2 : Nat → Int32} {kin2 : Nat → Int32} {low2 : Nat → Int32} {hig2 : Nat → Int32} {pri2 : Nat → Int32} {sta2 : Nat → Int32} {ups2 : Nat → Int32} {dow2 : Nat → Int32} {onn2 : Nat → Int32} {ord2 : Nat → Nat} {flo2 : Nat → Int32} {sro2 : Nat → Int32} {sco2 : Nat → Int32} (hw_o : isV h o (dayL o H2 U2 res2 dem2 kin2 low2 hig2 pri2 sta2 ups2 dow2 onn2 ord2 flo2 sro2 sco2)) (dj_o_d : o + 14 ≤ d ∨ d + 14 ≤ o) (hU2 : U2 ≤ 4) (hO : ∀ j, j < 4 → ord j < 4) : Ret G 2 mX2_becomeLike [.ref d, .ref o] (ov h d (dayL d H U res dem kin low hig pri sta ups dow onn ord flo sro sco)) none (ov h d (dayL d (f_Day_becomeLike dem kin low hig pri sta ups dow onn ord flo sro sco H2 U2 res2 dem2 kin2 low2 hig2 pri2 sta2 ups2 dow2 onn2).1 (f_Day_becomeLike dem kin low hig pri sta ups dow onn ord flo sro sco H2 U2 res2 dem2 kin2 low2 hig2 pri2 sta2 ups2 dow2 onn2).2.1 (f_Day_becomeLike dem kin low hig pri sta ups dow onn ord flo sro sco H2 U2 res2 dem2 kin2 low2 hig2 pri2 sta2 ups2 dow2 onn2).2.2.1 (f_Day_becomeLike dem kin low hig pri sta ups dow onn ord flo sro sco H2 U2 res2 dem2 kin2 low2 hig2 pri2 sta2 ups2 dow2 onn2).2.2.2.1 (f_Day_becomeLike dem kin low hig pri sta ups dow onn ord flo sro sco H2 U2 res2 dem2 kin2 low2 hig2 pri2 sta2 ups2 dow2 onn2).2.2.2.2.1 (f_Day_becomeLike dem kin low hig pri sta ups dow onn ord flo sro sco H2 U2 res2 dem2 kin2 low2 hig2 pri2 sta2 ups2 dow2 onn2).2.2.2.2.2.1 (f_Day_becomeLike dem kin low hig pri sta ups dow onn ord flo sro sco H2 U2 res2 dem2 kin2 low2 hig2 pri2 sta2 ups2 dow2 onn2).2.2.2.2.2.2.1 (f_Day_becomeLike dem kin low hig pri sta ups dow onn ord flo sro sco H2 U2 res2 dem2 kin2 low2 hig2 pri2 sta2 ups2 dow2 onn2).2.2.2.2.2.2.2.1 (f_Day_becomeLike dem kin low hig pri sta ups dow onn ord flo sro sco H2 U2 res2 dem2 kin2 low2 hig2 pri2 sta2 ups2 dow2 onn2).2.2.2.2.2.2.2.2.1 (f_Day_becomeLike dem kin low hig pri sta ups dow onn ord flo sro sco H2 U2 res2 dem2 kin2 low2 hig2 pri2 sta2 ups2 dow2 onn2).2.2.2.2.2.2.2.2.2.1 (f_Day_becomeLike dem kin low hig pri sta ups dow onn ord flo sro sco H2 U2 res2 dem2 kin2 low2 hig2 pri2 sta2 ups2 dow2 onn2).2.2.2.2.2.2.2.2.2.2.1 (f_Day_becomeLike dem kin low hig pri sta ups dow onn ord flo sro sco H2 U2 res2 dem2 kin2 low2 hig2 pri2 sta2 ups2 dow2 onn2).2.2.2.2.2.2.2.2.2.2.2.1 (f_Day_becomeLike dem kin low hig pri sta ups dow onn ord flo sro sco H2 U2 res2 dem2 kin2 low2 hig2 pri2 sta2 ups2 dow2 onn2).2.2.2.2.2.2.2.2.2.2.2.2.1 (f_Day_becomeLike dem kin low hig pri sta ups dow onn ord flo sro sco H2 U2 res2 dem2 kin2 low2 hig2 pri2 sta2 ups2 dow2 onn2).2.2.2.2.2.2.2.2.2.2.2.2.2.1 (f_Day_becomeLike dem kin low hig pri sta ups dow onn ord flo sro sco H2 U2 res2 dem2 kin2 low2 hig2 pri2 sta2 ups2 dow2 onn2).2.2.2.2.2.2.2.2.2.2.2.2.2.2.1 (f_Day_becomeLike dem kin low hig pri sta ups dow onn ord flo sro sco H2 U2 res2 dem2 kin2 low2 hig2 pri2 sta2 ups2 dow2 onn2).2.2.2.2.2.2.2.2.2.2.2.2.2.2.2)) := by
  generalize hf : f_Day_becomeLike dem kin low hig pri sta ups dow onn ord flo sro sco H2 U2 res2 dem2 kin2 low2 hig2 pri2 sta2 ups2 dow2 onn2 = R
  unfold f_Day_becomeLike at hf
  refine Ret.of [(0, .ref d), (1, .ref o)] (by decide) (Nat.le_of_ble_eq_true rfl) rfl ?_
  rintro Z rfl X Y
  have hv_d : isV (ov h d (dayL d H U res dem kin low hig pri sta ups dow onn ord flo sro sco)) d (dayL d H U res dem kin low hig pri sta ups dow onn ord flo sro sco) := ov_isV
  have hv_o : isV (ov h d (dayL d H U res dem kin low hig pri sta ups dow onn ord flo sro sco)) o (dayL o H2 U2 res2 dem2 kin2 low2 hig2 pri2 sta2 ups2 dow2 onn2 ord2 flo2 sro2 sco2) := isV_ov dj_o_d (hw_o)
  refine r_aload_n X 0 dX2_becomeLike_0 rfl ?_
  refine r_aload_n X 1 dX2_becomeLike_1 rfl ?_
  refine gf_X2_51 X dX2_becomeLike_2 (hv_o 0 _ rfl) rfl ?_
  refine pf_X2_51 X dX2_becomeLike_5 (hv_d 0 _ rfl) (Nat.le_of_ble_eq_true rfl) ?_
  refine SW.heq (h2 := (ov h d (dayL d H2 U res dem kin low hig pri sta ups dow onn ord flo sro sco))) (ov_up 0 (Nat.le_of_ble_eq_true rfl) rfl) ?_
  have hv_d : isV (ov h d (dayL d H2 U res dem kin low hig pri sta ups dow onn ord flo sro sco)) d (dayL d H2 U res dem kin low hig pri sta ups dow onn ord flo sro sco) := ov_isV
  have hv_o : isV (ov h d (dayL d H2 U res dem kin low hig pri sta ups dow onn ord flo sro sco)) o (dayL o H2 U2 res2 dem2 kin2 low2 hig2 pri2 sta2 ups2 dow2 onn2 ord2 flo2 sro2 sco2) := isV_ov dj_o_d (hw_o)
  refine r_aload_n X 0 dX2_becomeLike_8 rfl ?_
  refine r_aload_n X 1 dX2_becomeLike_9 rfl ?_
  refine gf_X2_55 X dX2_becomeLike_10 (hv_o 0 _ rfl) rfl ?_
  refine pf_X2_55 X dX2_becomeLike_13 (hv_d 0 _ rfl) (Nat.le_of_ble_eq_true rfl) ?_
  refine SW.heq (h2 := (ov h d (dayL d H2 U2 res dem kin low hig pri sta ups dow onn ord flo sro sco))) (ov_up 0 (Nat.le_of_ble_eq_true rfl) rfl) ?_
  have hv_d : isV (ov h d (dayL d H2 U2 res dem kin low hig pri sta ups dow onn ord flo sro sco)) d (dayL d H2 U2 res dem kin low hig pri sta ups dow onn ord flo sro sco) := ov_isV
  have hv_o : isV (ov h d (dayL d H2 U2 res dem kin low hig pri sta ups dow onn ord flo sro sco)) o (dayL o H2 U2 res2 dem2 kin2 low2 hig2 pri2 sta2 ups2 dow2 onn2 ord2 flo2 sro2 sco2) := isV_ov dj_o_d (hw_o)
  refine r_aload_n X 0 dX2_becomeLike_16 rfl ?_
  refine r_aload_n X 1 dX2_becomeLike_17 rfl ?_
  refine gf_X2_58 X dX2_becomeLike_18 (hv_o 0 _ rfl) rfl ?_
  refine pf_X2_58 X dX2_becomeLike_21 (hv_d 0 _ rfl) (Nat.le_of_ble_eq_true rfl) ?_
  refine SW.heq (h2 := (ov h d (dayL d H2 U2 res2 dem kin low hig pri sta ups dow onn ord flo sro sco))) (ov_up 0 (Nat.le_of_ble_eq_true rfl) rfl) ?_
  have hv_d : isV (ov h d (dayL d H2 U2 res2 dem kin low hig pri sta ups dow onn ord flo sro sco)) d (dayL d H2 U2 res2 dem kin low hig pri sta ups dow onn ord flo sro sco) := ov_isV
  have hv_o : isV (ov h d (dayL d H2 U2 res2 dem kin low hig pri sta ups dow onn ord flo sro sco)) o (dayL o H2 U2 res2 dem2 kin2 low2 hig2 pri2 sta2 ups2 dow2 onn2 ord2 flo2 sro2 sco2) := isV_ov dj_o_d (hw_o)
  refine r_aload_n X 1 dX2_becomeLike_24 rfl ?_
  refine gf_X2_9 X dX2_becomeLike_25 (hv_o 0 _ rfl) rfl ?_
  refine r_iconst X (0 : Int32) dX2_becomeLike_28 (by decide) ?_
  refine r_aload_n X 0 dX2_becomeLike_29 rfl ?_
  refine gf_X2_9 X dX2_becomeLike_30 (hv_d 0 _ rfl) rfl ?_
  refine r_iconst X (0 : Int32) dX2_becomeLike_33 (by decide) ?_
  refine r_bipush X (6 : Int32) dX2_becomeLike_34 (by decide) ?_
  refine ac_X2_61 X (by decide) dX2_becomeLike_36 (Nat.le_of_ble_eq_true rfl) (hv_o 1 _ rfl) (hv_d 1 _ rfl) (by decide) (by decide) (by decide) (by decide) (by decide) ?_
  refine SW.heq (h2 := (ov h d (dayL d H2 U2 res2 (va_cpy dem2 dem 0 0 6) kin low hig pri sta ups dow onn ord flo sro sco))) (ov_up 1 (Nat.le_of_ble_eq_true rfl) rfl) ?_
  have hv_d : isV (ov h d (dayL d H2 U2 res2 (va_cpy dem2 dem 0 0 6) kin low hig pri sta ups dow onn ord flo sro sco)) d (dayL d H2 U2 res2 (va_cpy dem2 dem 0 0 6) kin low hig pri sta ups dow onn ord flo sro sco) := ov_isV
  have hv_o : isV (ov h d (dayL d H2 U2 res2 (va_cpy dem2 dem 0 0 6) kin low hig pri sta ups dow onn ord flo sro sco)) o (dayL o H2 U2 res2 dem2 kin2 low2 hig2 pri2 sta2 ups2 dow2 onn2 ord2 flo2 sro2 sco2) := isV_ov dj_o_d (hw_o)
  refine r_aload_n X 1 dX2_becomeLike_39 rfl ?_
  refine gf_X2_15 X dX2_becomeLike_40 (hv_o 0 _ rfl) rfl ?_
  refine r_iconst X (0 : Int32) dX2_becomeLike_43 (by decide) ?_
  refine r_aload_n X 0 dX2_becomeLike_44 rfl ?_
  refine gf_X2_15 X dX2_becomeLike_45 (hv_d 0 _ rfl) rfl ?_
  refine r_iconst X (0 : Int32) dX2_becomeLike_48 (by decide) ?_
  refine r_iconst X (4 : Int32) dX2_becomeLike_49 (by decide) ?_
  refine ac_X2_61 X (by decide) dX2_becomeLike_50 (Nat.le_of_ble_eq_true rfl) (hv_o 2 _ rfl) (hv_d 2 _ rfl) (by decide) (by decide) (by decide) (by decide) (by decide) ?_
  refine SW.heq (h2 := (ov h d (dayL d H2 U2 res2 (va_cpy dem2 dem 0 0 6) (va_cpy kin2 kin 0 0 4) low hig pri sta ups dow onn ord flo sro sco))) (ov_up 2 (Nat.le_of_ble_eq_true rfl) rfl) ?_
  have hv_d : isV (ov h d (dayL d H2 U2 res2 (va_cpy dem2 dem 0 0 6) (va_cpy kin2 kin 0 0 4) low hig pri sta ups dow onn ord flo sro sco)) d (dayL d H2 U2 res2 (va_cpy dem2 dem 0 0 6) (va_cpy kin2 kin 0 0 4) low hig pri sta ups dow onn ord flo sro sco) := ov_isV
  have hv_o : isV (ov h d (dayL d H2 U2 res2 (va_cpy dem2 dem 0 0 6) (va_cpy kin2 kin 0 0 4) low hig pri sta ups dow onn ord flo sro sco)) o (dayL o H2 U2 res2 dem2 kin2 low2 hig2 pri2 sta2 ups2 dow2 onn2 ord2 flo2 sro2 sco2) := isV_ov dj_o_d (hw_o)
  refine r_aload_n X 1 dX2_becomeLike_53 rfl ?_
  refine gf_X2_18 X dX2_becomeLike_54 (hv_o 0 _ rfl) rfl ?_
  refine r_iconst X (0 : Int32) dX2_becomeLike_57 (by decide) ?_
  refine r_aload_n X 0 dX2_becomeLike_58 rfl ?_
  refine gf_X2_18 X dX2_becomeLike_59 (hv_d 0 _ rfl) rfl ?_
  refine r_iconst X (0 : Int32) dX2_becomeLike_62 (by decide) ?_
  refine r_iconst X (4 : Int32) dX2_becomeLike_63 (by decide) ?_
  refine ac_X2_61 X (by decide) dX2_becomeLike_64 (Nat.le_of_ble_eq_true rfl) (hv_o 3 _ rfl) (hv_d 3 _ rfl) (by decide) (by decide) (by decide) (by decide) (by decide) ?_
  refine SW.heq (h2 := (ov h d (dayL d H2 U2 res2 (va_cpy dem2 dem 0 0 6) (va_cpy kin2 kin 0 0 4) (va_cpy low2 low 0 0 4) hig pri sta ups dow onn ord flo sro sco))) (ov_up 3 (Nat.le_of_ble_eq_true rfl) rfl) ?_
  have hv_d : isV (ov h d (dayL d H2 U2 res2 (va_cpy dem2 dem 0 0 6) (va_cpy kin2 kin 0 0 4) (va_cpy low2 low 0 0 4) hig pri sta ups dow onn ord flo sro sco)) d (dayL d H2 U2 res2 (va_cpy dem2 dem 0 0 6) (va_cpy kin2 kin 0 0 4) (va_cpy low2 low 0 0 4) hig pri sta ups dow onn ord flo sro sco) := ov_isV
  have hv_o : isV (ov h d (dayL d H2 U2 res2 (va_cpy dem2 dem 0 0 6) (va_cpy kin2 kin 0 0 4) (va_cpy low2 low 0 0 4) hig pri sta ups dow onn ord flo sro sco)) o (dayL o H2 U2 res2 dem2 kin2 low2 hig2 pri2 sta2 ups2 dow2 onn2 ord2 flo2 sro2 sco2) := isV_ov dj_o_d (hw_o)
  refine r_aload_n X 1 dX2_becomeLike_67 rfl ?_
  refine gf_X2_21 X dX2_becomeLike_68 (hv_o 0 _ rfl) rfl ?_
  refine r_iconst X (0 : Int32) dX2_becomeLike_71 (by decide) ?_
  refine r_aload_n X 0 dX2_becomeLike_72 rfl ?_
  refine gf_X2_21 X dX2_becomeLike_73 (hv_d 0 _ rfl) rfl ?_
  refine r_iconst X (0 : Int32) dX2_becomeLike_76 (by decide) ?_
  refine r_iconst X (4 : Int32) dX2_becomeLike_77 (by decide) ?_
  refine ac_X2_61 X (by decide) dX2_becomeLike_78 (Nat.le_of_ble_eq_true rfl) (hv_o 4 _ rfl) (hv_d 4 _ rfl) (by decide) (by decide) (by decide) (by decide) (by decide) ?_
  refine SW.heq (h2 := (ov h d (dayL d H2 U2 res2 (va_cpy dem2 dem 0 0 6) (va_cpy kin2 kin 0 0 4) (va_cpy low2 low 0 0 4) (va_cpy hig2 hig 0 0 4) pri sta ups dow onn ord flo sro sco))) (ov_up 4 (Nat.le_of_ble_eq_true rfl) rfl) ?_
  have hv_d : isV (ov h d (dayL d H2 U2 res2 (va_cpy dem2 dem 0 0 6) (va_cpy kin2 kin 0 0 4) (va_cpy low2 low 0 0 4) (va_cpy hig2 hig 0 0 4) pri sta ups dow onn ord flo sro sco)) d (dayL d H2 U2 res2 (va_cpy dem2 dem 0 0 6) (va_cpy kin2 kin 0 0 4) (va_cpy low2 low 0 0 4) (va_cpy hig2 hig 0 0 4) pri sta ups dow onn ord flo sro sco) := ov_isV
  have hv_o : isV (ov h d (dayL d H2 U2 res2 (va_cpy dem2 dem 0 0 6) (va_cpy kin2 kin 0 0 4) (va_cpy low2 low 0 0 4) (va_cpy hig2 hig 0 0 4) pri sta ups dow onn ord flo sro sco)) o (dayL o H2 U2 res2 dem2 kin2 low2 hig2 pri2 sta2 ups2 dow2 onn2 ord2 flo2 sro2 sco2) := isV_ov dj_o_d (hw_o)
  refine r_aload_n X 1 dX2_becomeLike_81 rfl ?_
  refine gf_X2_24 X dX2_becomeLike_82 (hv_o 0 _ rfl) rfl ?_
  refine r_iconst X (0 : Int32) dX2_becomeLike_85 (by decide) ?_
  refine r_aload_n X 0 dX2_becomeLike_86 rfl ?_
  refine gf_X2_24 X dX2_becomeLike_87 (hv_d 0 _ rfl) rfl ?_
  refine r_iconst X (0 : Int32) dX2_becomeLike_90 (by decide) ?_
  refine r_iconst X (4 : Int32) dX2_becomeLike_91 (by decide) ?_
  refine ac_X2_61 X (by decide) dX2_becomeLike_92 (Nat.le_of_ble_eq_true rfl) (hv_o 5 _ rfl) (hv_d 5 _ rfl) (by decide) (by decide) (by decide) (by decide) (by decide) ?_
  refine SW.heq (h2 := (ov h d (dayL d H2 U2 res2 (va_cpy dem2 dem 0 0 6) (va_cpy kin2 kin 0 0 4) (va_cpy low2 low 0 0 4) (va_cpy hig2 hig 0 0 4) (va_cpy pri2 pri 0 0 4) sta ups dow onn ord flo sro sco))) (ov_up 5 (Nat.le_of_ble_eq_true rfl) rfl) ?_
  have hv_d : isV (ov h d (dayL d H2 U2 res2 (va_cpy dem2 dem 0 0 6) (va_cpy kin2 kin 0 0 4) (va_cpy low2 low 0 0 4) (va_cpy hig2 hig 0 0 4) (va_cpy pri2 pri 0 0 4) sta ups dow onn ord flo sro sco)) d (dayL d H2 U2 res2 (va_cpy dem2 dem 0 0 6) (va_cpy kin2 kin 0 0 4) (va_cpy low2 low 0 0 4) (va_cpy hig2 hig 0 0 4) (va_cpy pri2 pri 0 0 4) sta ups dow onn ord flo sro sco) := ov_isV
  have hv_o : isV (ov h d (dayL d H2 U2 res2 (va_cpy dem2 dem 0 0 6) (va_cpy kin2 kin 0 0 4) (va_cpy low2 low 0 0 4) (va_cpy hig2 hig 0 0 4) (va_cpy pri2 pri 0 0 4) sta ups dow onn ord flo sro sco)) o (dayL o H2 U2 res2 dem2 kin2 low2 hig2 pri2 sta2 ups2 dow2 onn2 ord2 flo2 sro2 sco2) := isV_ov dj_o_d (hw_o)
  refine r_aload_n X 1 dX2_becomeLike_95 rfl ?_
  refine gf_X2_27 X dX2_becomeLike_96 (hv_o 0 _ rfl) rfl ?_
  refine r_iconst X (0 : Int32) dX2_becomeLike_99 (by decide) ?_
  refine r_aload_n X 0 dX2_becomeLike_100 rfl ?_
  refine gf_X2_27 X dX2_becomeLike_101 (hv_d 0 _ rfl) rfl ?_
  refine r_iconst X (0 : Int32) dX2_becomeLike_104 (by decide) ?_
  refine r_iconst X (4 : Int32) dX2_becomeLike_105 (by decide) ?_
  refine ac_X2_61 X (by decide) dX2_becomeLike_106 (Nat.le_of_ble_eq_true rfl) (hv_o 6 _ rfl) (hv_d 6 _ rfl) (by decide) (by decide) (by decide) (by decide) (by decide) ?_
  refine SW.heq (h2 := (ov h d (dayL d H2 U2 res2 (va_cpy dem2 dem 0 0 6) (va_cpy kin2 kin 0 0 4) (va_cpy low2 low 0 0 4) (va_cpy hig2 hig 0 0 4) (va_cpy pri2 pri 0 0 4) (va_cpy sta2 sta 0 0 4) ups dow onn ord flo sro sco))) (ov_up 6 (Nat.le_of_ble_eq_true rfl) rfl) ?_
  have hv_d : isV (ov h d (dayL d H2 U2 res2 (va_cpy dem2 dem 0 0 6) (va_cpy kin2 kin 0 0 4) (va_cpy low2 low 0 0 4) (va_cpy hig2 hig 0 0 4) (va_cpy pri2 pri 0 0 4) (va_cpy sta2 sta 0 0 4) ups dow onn ord flo sro sco)) d (dayL d H2 U2 res2 (va_cpy dem2 dem 0 0 6) (va_cpy kin2 kin 0 0 4) (va_cpy low2 low 0 0 4) (va_cpy hig2 hig 0 0 4) (va_cpy pri2 pri 0 0 4) (va_cpy sta2 sta 0 0 4) ups dow onn ord flo sro sco) := ov_isV
  have hv_o : isV (ov h d (dayL d H2 U2 res2 (va_cpy dem2 dem 0 0 6) (va_cpy kin2 kin 0 0 4) (va_cpy low2 low 0 0 4) (va_cpy hig2 hig 0 0 4) (va_cpy pri2 pri 0 0 4) (va_cpy sta2 sta 0 0 4) ups dow onn ord flo sro sco)) o (dayL o H2 U2 res2 dem2 kin2 low2 hig2 pri2 sta2 ups2 dow2 onn2 ord2 flo2 sro2 sco2) := isV_ov dj_o_d (hw_o)
  refine r_aload_n X 1 dX2_becomeLike_109 rfl ?_
  refine gf_X2_30 X dX2_becomeLike_110 (hv_o 0 _ rfl) rfl ?_
  refine r_iconst X (0 : Int32) dX2_becomeLike_113 (by decide) ?_
  refine r_aload_n X 0 dX2_becomeLike_114 rfl ?_
  refine gf_X2_30 X dX2_becomeLike_115 (hv_d 0 _ rfl) rfl ?_
  refine r_iconst X (0 : Int32) dX2_becomeLike_118 (by decide) ?_
  refine r_iconst X (4 : Int32) dX2_becomeLike_119 (by decide) ?_
  refine ac_X2_61 X (by decide) dX2_becomeLike_120 (Nat.le_of_ble_eq_true rfl) (hv_o 7 _ rfl) (hv_d 7 _ rfl) (by decide) (by decide) (by decide) (by decide) (by decide) ?_
  refine SW.heq (h2 := (ov h d (dayL d H2 U2 res2 (va_cpy dem2 dem 0 0 6) (va_cpy kin2 kin 0 0 4) (va_cpy low2 low 0 0 4) (va_cpy hig2 hig 0 0 4) (va_cpy pri2 pri 0 0 4) (va_cpy sta2 sta 0 0 4) (va_cpy ups2 ups 0 0 4) dow onn ord flo sro sco))) (ov_up 7 (Nat.le_of_ble_eq_true rfl) rfl) ?_
  have hv_d : isV (ov h d (dayL d H2 U2 res2 (va_cpy dem2 dem 0 0 6) (va_cpy kin2 kin 0 0 4) (va_cpy low2 low 0 0 4) (va_cpy hig2 hig 0 0 4) (va_cpy pri2 pri 0 0 4) (va_cpy sta2 sta 0 0 4) (va_cpy ups2 ups 0 0 4) dow onn ord flo sro sco)) d (dayL d H2 U2 res2 (va_cpy dem2 dem 0 0 6) (va_cpy kin2 kin 0 0 4) (va_cpy low2 low 0 0 4) (va_cpy hig2 hig 0 0 4) (va_cpy pri2 pri 0 0 4) (va_cpy sta2 sta 0 0 4) (va_cpy ups2 ups 0 0 4) dow onn ord flo sro sco) := ov_isV
  have hv_o : isV (ov h d (dayL d H2 U2 res2 (va_cpy dem2 dem 0 0 6) (va_cpy kin2 kin 0 0 4) (va_cpy low2 low 0 0 4) (va_cpy hig2 hig 0 0 4) (va_cpy pri2 pri 0 0 4) (va_cpy sta2 sta 0 0 4) (va_cpy ups2 ups 0 0 4) dow onn ord flo sro sco)) o (dayL o H2 U2 res2 dem2 kin2 low2 hig2 pri2 sta2 ups2 dow2 onn2 ord2 flo2 sro2 sco2) := isV_ov dj_o_d (hw_o)
  refine r_aload_n X 1 dX2_becomeLike_123 rfl ?_
  refine gf_X2_33 X dX2_becomeLike_124 (hv_o 0 _ rfl) rfl ?_
  refine r_iconst X (0 : Int32) dX2_becomeLike_127 (by decide) ?_
  refine r_aload_n X 0 dX2_becomeLike_128 rfl ?_
  refine gf_X2_33 X dX2_becomeLike_129 (hv_d 0 _ rfl) rfl ?_
  refine r_iconst X (0 : Int32) dX2_becomeLike_132 (by decide) ?_
  refine r_iconst X (4 : Int32) dX2_becomeLike_133 (by decide) ?_
  refine ac_X2_61 X (by decide) dX2_becomeLike_134 (Nat.le_of_ble_eq_true rfl) (hv_o 8 _ rfl) (hv_d 8 _ rfl) (by decide) (by decide) (by decide) (by decide) (by decide) ?_
  refine SW.heq (h2 := (ov h d (dayL d H2 U2 res2 (va_cpy dem2 dem 0 0 6) (va_cpy kin2 kin 0 0 4) (va_cpy low2 low 0 0 4) (va_cpy hig2 hig 0 0 4) (va_cpy pri2 pri 0 0 4) (va_cpy sta2 sta 0 0 4) (va_cpy ups2 ups 0 0 4) (va_cpy dow2 dow 0 0 4) onn ord flo sro sco))) (ov_up 8 (Nat.le_of_ble_eq_true rfl) rfl) ?_
  have hv_d : isV (ov h d (dayL d H2 U2 res2 (va_cpy dem2 dem 0 0 6) (va_cpy kin2 kin 0 0 4) (va_cpy low2 low 0 0 4) (va_cpy hig2 hig 0 0 4) (va_cpy pri2 pri 0 0 4) (va_cpy sta2 sta 0 0 4) (va_cpy ups2 ups 0 0 4) (va_cpy dow2 dow 0 0 4) onn ord flo sro sco)) d (dayL d H2 U2 res2 (va_cpy dem2 dem 0 0 6) (va_cpy kin2 kin 0 0 4) (va_cpy low2 low 0 0 4) (va_cpy hig2 hig 0 0 4) (va_cpy pri2 pri 0 0 4) (va_cpy sta2 sta 0 0 4) (va_cpy ups2 ups 0 0 4) (va_cpy dow2 dow 0 0 4) onn ord flo sro sco) := ov_isV
  have hv_o : isV (ov h d (dayL d H2 U2 res2 (va_cpy dem2 dem 0 0 6) (va_cpy kin2 kin 0 0 4) (va_cpy low2 low 0 0 4) (va_cpy hig2 hig 0 0 4) (va_cpy pri2 pri 0 0 4) (va_cpy sta2 sta 0 0 4) (va_cpy ups2 ups 0 0 4) (va_cpy dow2 dow 0 0 4) onn ord flo sro sco)) o (dayL o H2 U2 res2 dem2 kin2 low2 hig2 pri2 sta2 ups2 dow2 onn2 ord2 flo2 sro2 sco2) := isV_ov dj_o_d (hw_o)
  refine r_aload_n X 1 dX2_becomeLike_137 rfl ?_
  refine gf_X2_36 X dX2_becomeLike_138 (hv_o 0 _ rfl) rfl ?_
  refine r_iconst X (0 : Int32) dX2_becomeLike_141 (by decide) ?_
  refine r_aload_n X 0 dX2_becomeLike_142 rfl ?_
  refine gf_X2_36 X dX2_becomeLike_143 (hv_d 0 _ rfl) rfl ?_
  refine r_iconst X (0 : Int32) dX2_becomeLike_146 (by decide) ?_
  refine r_iconst X (4 : Int32) dX2_becomeLike_147 (by decide) ?_
  refine ac_X2_61 X (by decide) dX2_becomeLike_148 (Nat.le_of_ble_eq_true rfl) (hv_o 9 _ rfl) (hv_d 9 _ rfl) (by decide) (by decide) (by decide) (by decide) (by decide) ?_
  refine SW.heq (h2 := (ov h d (dayL d H2 U2 res2 (va_cpy dem2 dem 0 0 6) (va_cpy kin2 kin 0 0 4) (va_cpy low2 low 0 0 4) (va_cpy hig2 hig 0 0 4) (va_cpy pri2 pri 0 0 4) (va_cpy sta2 sta 0 0 4) (va_cpy ups2 ups 0 0 4) (va_cpy dow2 dow 0 0 4) (va_cpy onn2 onn 0 0 4) ord flo sro sco))) (ov_up 9 (Nat.le_of_ble_eq_true rfl) rfl) ?_
  have hv_d : isV (ov h d (dayL d H2 U2 res2 (va_cpy dem2 dem 0 0 6) (va_cpy kin2 kin 0 0 4) (va_cpy low2 low 0 0 4) (va_cpy hig2 hig 0 0 4) (va_cpy pri2 pri 0 0 4) (va_cpy sta2 sta 0 0 4) (va_cpy ups2 ups 0 0 4) (va_cpy dow2 dow 0 0 4) (va_cpy onn2 onn 0 0 4) ord flo sro sco)) d (dayL d H2 U2 res2 (va_cpy dem2 dem 0 0 6) (va_cpy kin2 kin 0 0 4) (va_cpy low2 low 0 0 4) (va_cpy hig2 hig 0 0 4) (va_cpy pri2 pri 0 0 4) (va_cpy sta2 sta 0 0 4) (va_cpy ups2 ups 0 0 4) (va_cpy dow2 dow 0 0 4) (va_cpy onn2 onn 0 0 4) ord flo sro sco) := ov_isV
  have hv_o : isV (ov h d (dayL d H2 U2 res2 (va_cpy dem2 dem 0 0 6) (va_cpy kin2 kin 0 0 4) (va_cpy low2 low 0 0 4) (va_cpy hig2 hig 0 0 4) (va_cpy pri2 pri 0 0 4) (va_cpy sta2 sta 0 0 4) (va_cpy ups2 ups 0 0 4) (va_cpy dow2 dow 0 0 4) (va_cpy onn2 onn 0 0 4) ord flo sro sco)) o (dayL o H2 U2 res2 dem2 kin2 low2 hig2 pri2 sta2 ups2 dow2 onn2 ord2 flo2 sro2 sco2) := isV_ov dj_o_d (hw_o)
  refine r_aload_n X 0 dX2_becomeLike_151 rfl ?_
  refine cl_X2_67 X (by decide) dX2_becomeLike_152 (Nat.le_of_ble_eq_true rfl) (hv_d 0 _ rfl) (c_Day_settle  (by first | assumption | omega) (by first | assumption | omega)) ?_
  obtain ⟨q1, eq1⟩ : ∃ q, q = f_Day_settle U2 (va_cpy kin2 kin 0 0 4) (va_cpy low2 low 0 0 4) (va_cpy hig2 hig 0 0 4) (va_cpy pri2 pri 0 0 4) (va_cpy sta2 sta 0 0 4) ord flo sro sco := ⟨_, rfl⟩
  rw [← eq1]
  rw [← eq1] at hf
  try dsimp only at hf
  have hv_d : isV (ov h d (dayL d H2 U2 res2 (va_cpy dem2 dem 0 0 6) (va_cpy kin2 kin 0 0 4) (va_cpy low2 low 0 0 4) (va_cpy hig2 hig 0 0 4) (va_cpy pri2 pri 0 0 4) (va_cpy sta2 sta 0 0 4) (va_cpy ups2 ups 0 0 4) (va_cpy dow2 dow 0 0 4) (va_cpy onn2 onn 0 0 4) q1.1 q1.2.1 q1.2.2.1 q1.2.2.2)) d (dayL d H2 U2 res2 (va_cpy dem2 dem 0 0 6) (va_cpy kin2 kin 0 0 4) (va_cpy low2 low 0 0 4) (va_cpy hig2 hig 0 0 4) (va_cpy pri2 pri 0 0 4) (va_cpy sta2 sta 0 0 4) (va_cpy ups2 ups 0 0 4) (va_cpy dow2 dow 0 0 4) (va_cpy onn2 onn 0 0 4) q1.1 q1.2.1 q1.2.2.1 q1.2.2.2) := ov_isV
  have hv_o : isV (ov h d (dayL d H2 U2 res2 (va_cpy dem2 dem 0 0 6) (va_cpy kin2 kin 0 0 4) (va_cpy low2 low 0 0 4) (va_cpy hig2 hig 0 0 4) (va_cpy pri2 pri 0 0 4) (va_cpy sta2 sta 0 0 4) (va_cpy ups2 ups 0 0 4) (va_cpy dow2 dow 0 0 4) (va_cpy onn2 onn 0 0 4) q1.1 q1.2.1 q1.2.2.1 q1.2.2.2)) o (dayL o H2 U2 res2 dem2 kin2 low2 hig2 pri2 sta2 ups2 dow2 onn2 ord2 flo2 sro2 sco2) := isV_ov dj_o_d (hw_o)
  try subst hf
  exact r_return X Y dX2_becomeLike_155 rfl rfl
