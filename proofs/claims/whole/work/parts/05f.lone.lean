def lonL (lb : Nat) (lp lg lz : Nat → Int64) (ls : Int64) (lo : Int32) : List mC := [.inr (3, [.ref (lb + 1), .ref (lb + 2), .ref (lb + 3), .long ls, .int lo]), .inl (1, 6, .inr (.inl lp)), .inl (1, 6, .inr (.inl lg)), .inl (1, 64, .inr (.inl lz))]
def ar40 (_ : Nat) (f : Nat → Int32) : List mC := [.inl (0, 40, .inl f)]
theorem shl1_nI : ∀ k, k < 31 → (1 : Int32) <<< (nI k &&& 31) = nI (2 ^ k) := by decide +kernel
theorem allHours_nI : ∀ H, H < 7 → f_Day_allHours H = nI (2 ^ H - 1) := by decide +kernel
theorem pow64 {H : Nat} (h : H ≤ 6) : 2 ^ H ≤ 64 := Nat.pow_le_pow_right (n := 2) (by decide) h
theorem pow32 {H : Nat} (h : H ≤ 5) : 2 ^ H ≤ 32 := Nat.pow_le_pow_right (n := 2) (by decide) h
theorem or_lt64 {a k : Nat} (ha : a < 2 ^ k) (hk : k ≤ 5) : a ||| 2 ^ k < 64 := Nat.or_lt_two_pow (n := 6) (Nat.lt_of_lt_of_le ha (Nat.le_trans (pow32 hk) (by decide))) (Nat.lt_of_le_of_lt (pow32 hk) (by decide))
theorem nI_or (a b : Nat) : nI a ||| nI b = nI (a ||| b) := by
  unfold nI
  apply Int32.toBitVec_inj.mp
  simp [BitVec.ofNat_or]
section MLN
variable {Z : mZ} {own : String} {cc : ByteArray} {nL n pc : Nat} {lv : List (Nat × Value)} {st : List Value} {h : mHp}
theorem r_ishl1n (X : mCx Z own cc nL n) {k0 : Nat} (d : decode cc pc = .ok (.ishl, 1)) (hk : k0 < 31) (k : SW Z (pc + 1) lv (.int (nI (2 ^ k0)) :: st) h) : SW Z pc lv (.int (nI k0) :: .int 1 :: st) h := r_ishl X d (by rw [shl1_nI k0 hk]; exact k)
theorem r_iorn (X : mCx Z own cc nL n) {a b : Nat} (d : decode cc pc = .ok (.ior, 1)) (k : SW Z (pc + 1) lv (.int (nI (a ||| b)) :: st) h) : SW Z pc lv (.int (nI b) :: .int (nI a) :: st) h := r_ior X d (by rw [nI_or]; exact k)
end MLN
theorem c_Day_allHoursN {G : mG} {h : mHp} {d : Nat} {H : Nat} {U : Nat} {res : Int32} {dem kin low hig pri sta ups dow onn : Nat → Int32} {ord : Nat → Nat} {flo sro sco : Nat → Int32} (hv_d : isV h d (dayL d H U res dem kin low hig pri sta ups dow onn ord flo sro sco)) (hH : H ≤ 6) : Ret G 0 mX2_allHours [.ref d] h (some (.int (nI (2 ^ H - 1)))) h := by
  rw [← allHours_nI H (by omega)]
  exact c_Day_allHours hv_d

def f_Lone_takePrices_L3s (f : Nat → Int32) (n2 : Nat) (k3 : Nat) (lp : Nat → Int64) : (Nat → Int64) := vp_updL lp k3 ((f (n2 + k3)).toInt64)
def f_Lone_takePrices_L3 (f : Nat → Int32) (n2 : Nat) (lp : Nat → Int64) : Nat → (Nat → Int64)
  | 0 => lp
  | k3 + 1 => f_Lone_takePrices_L3s f n2 k3 (f_Lone_takePrices_L3 f n2 lp k3)
def f_Lone_takePrices (lp : Nat → Int64) (f : Nat → Int32) (i : Nat) (n : Nat) : (Nat → Int64) := (f_Lone_takePrices_L3 f i lp n)
set_option maxRecDepth 20000 in
set_option maxHeartbeats 4000000 in
theorem c_Lone_takePrices {G : mG} {h : mHp} {a : Nat} {lb : Nat} {lp : Nat → Int64} {lg : Nat → Int64} {lz : Nat → Int64} {ls : Int64} {lo : Int32} {f : Nat → Int32} {i : Nat} {n : Nat} (hw_a : isV h a (ar40 a f)) (dj_a_l : a + 1 ≤ lb ∨ lb + 4 ≤ a) (hn : n ≤ 6) (hi : i + n ≤ 40) : Ret G 0 mX3_takePrices [.ref lb, .ref a, .int (nI i), .int (nI n)] (ov h lb (lonL lb lp lg lz ls lo)) none (ov h lb (lonL lb (f_Lone_takePrices lp f i n) lg lz ls lo)) := by
  generalize hf : f_Lone_takePrices lp f i n = R
  unfold f_Lone_takePrices at hf
  refine Ret.of [(0, .ref lb), (1, .ref a), (2, .int (nI i)), (3, .int (nI n))] (by decide) (Nat.le_of_ble_eq_true rfl) rfl ?_
  rintro Z rfl X Y
  have hv_l : isV (ov h lb (lonL lb lp lg lz ls lo)) lb (lonL lb lp lg lz ls lo) := ov_isV
  have hv_a : isV (ov h lb (lonL lb lp lg lz ls lo)) a (ar40 a f) := isV_ov dj_a_l (hw_a)
  refine r_iconst X (0 : Int32) dX3_takePrices_0 (by decide) ?_
  refine r_istore [(0, .ref lb), (1, .ref a), (2, .int (nI i)), (3, .int (nI n)), (4, .int (0 : Int32))] X dX3_takePrices_1 (by decide) rfl ?_
  refine loop_up (P := fun k1 => SW Z 3 [(0, .ref lb), (1, .ref a), (2, .int (nI i)), (3, .int (nI n)), (4, .int (nI k1))] [] (ov h lb (lonL lb (f_Lone_takePrices_L3 f i lp k1) lg lz ls lo))) n ?_ ?_ 0 (Nat.zero_le _)
  rotate_left
  · intro k1 hk1 ih
    have hv_l : isV (ov h lb (lonL lb (f_Lone_takePrices_L3 f i lp k1) lg lz ls lo)) lb (lonL lb (f_Lone_takePrices_L3 f i lp k1) lg lz ls lo) := ov_isV
    have hv_a : isV (ov h lb (lonL lb (f_Lone_takePrices_L3 f i lp k1) lg lz ls lo)) a (ar40 a f) := isV_ov dj_a_l (hw_a)
    refine r_iload X 4 dX3_takePrices_3 rfl ?_
    refine r_iload_n X 3 dX3_takePrices_5 rfl ?_
    refine r_icmp_ge X 29 dX3_takePrices_6 rfl (fun z => absurd (nI_lt (a := k1) (b := n) (by omega) (by omega)) z) (fun _ => ?_)
    refine r_aload_n X 0 dX3_takePrices_9 rfl ?_
    refine gf_X3_9 X dX3_takePrices_10 (hv_l 0 _ rfl) rfl ?_
    refine r_iload X 4 dX3_takePrices_13 rfl ?_
    refine r_aload_n X 1 dX3_takePrices_15 rfl ?_
    refine r_iload_n X 2 dX3_takePrices_16 rfl ?_
    refine r_iload X 4 dX3_takePrices_17 rfl ?_
    refine r_iaddn X (a := i) (b := k1) dX3_takePrices_19 ?_
    refine r_ialdn X (k0 := i + k1) dX3_takePrices_20 (hv_a 0 _ rfl) (by omega) (by decide) ?_
    refine r_i2l X dX3_takePrices_21 ?_
    refine r_lastn X (k0 := k1) dX3_takePrices_22 (hv_l 1 _ rfl) (by omega) (by first | decide | omega) ?_
    refine SW.heq (h2 := (ov h lb (lonL lb (vp_updL (f_Lone_takePrices_L3 f i lp k1) k1 ((f (i + k1)).toInt64)) lg lz ls lo))) (ov_up 1 (Nat.le_of_ble_eq_true rfl) rfl) ?_
    have hv_l : isV (ov h lb (lonL lb (vp_updL (f_Lone_takePrices_L3 f i lp k1) k1 ((f (i + k1)).toInt64)) lg lz ls lo)) lb (lonL lb (vp_updL (f_Lone_takePrices_L3 f i lp k1) k1 ((f (i + k1)).toInt64)) lg lz ls lo) := ov_isV
    have hv_a : isV (ov h lb (lonL lb (vp_updL (f_Lone_takePrices_L3 f i lp k1) k1 ((f (i + k1)).toInt64)) lg lz ls lo)) a (ar40 a f) := isV_ov dj_a_l (hw_a)
    refine r_iinc [(0, .ref lb), (1, .ref a), (2, .int (nI i)), (3, .int (nI n)), (4, .int (nI (k1 + 1)))] X (nI (k1 + 1)) 4 dX3_takePrices_23 rfl (nI_succ _).symm (by decide) rfl ?_
    refine r_goto X 3 dX3_takePrices_26 rfl ?_
    exact ih
  have hv_l : isV (ov h lb (lonL lb (f_Lone_takePrices_L3 f i lp n) lg lz ls lo)) lb (lonL lb (f_Lone_takePrices_L3 f i lp n) lg lz ls lo) := ov_isV
  have hv_a : isV (ov h lb (lonL lb (f_Lone_takePrices_L3 f i lp n) lg lz ls lo)) a (ar40 a f) := isV_ov dj_a_l (hw_a)
  refine r_iload X 4 dX3_takePrices_3 rfl ?_
  refine r_iload_n X 3 dX3_takePrices_5 rfl ?_
  refine r_icmp_ge X 29 dX3_takePrices_6 rfl (fun _ => ?_) (fun z => absurd z (nI_nlt (a := n) (b := n) (by omega) (by omega)))
  try subst hf
  exact r_return X Y dX3_takePrices_29 rfl rfl

def f_Lone_powerIn (lp : Nat → Int64) (hig : Nat → Int32) (pri : Nat → Int32) (flo : Nat → Int32) (sro : Nat → Int32) (u : Nat) (hr : Nat) (z : Int32) : Int64 := (if ((pri u).toInt64) < (lp hr) then if z = (0 : Int32) then (hig u).toInt64 else (sro u).toInt64 else (flo u).toInt64)
set_option maxRecDepth 20000 in
set_option maxHeartbeats 4000000 in
theorem c_Lone_powerIn {G : mG} {h : mHp} {d : Nat} {lb : Nat} {lp : Nat → Int64} {lg : Nat → Int64} {lz : Nat → Int64} {ls : Int64} {lo : Int32} {H : Nat} {U : Nat} {res : Int32} {dem : Nat → Int32} {kin : Nat → Int32} {low : Nat → Int32} {hig : Nat → Int32} {pri : Nat → Int32} {sta : Nat → Int32} {ups : Nat → Int32} {dow : Nat → Int32} {onn : Nat → Int32} {ord : Nat → Nat} {flo : Nat → Int32} {sro : Nat → Int32} {sco : Nat → Int32} {u : Nat} {hr : Nat} {z : Int32} (hv_l : isV h lb (lonL lb lp lg lz ls lo)) (hv_d : isV h d (dayL d H U res dem kin low hig pri sta ups dow onn ord flo sro sco))  (hu : u < 4) (hr6 : hr < 6) : Ret G 0 mX3_powerIn [.ref lb, .ref d, .int (nI u), .int (nI hr), .int z] h (some (.long (f_Lone_powerIn lp hig pri flo sro u hr z))) h := by
  generalize hf : f_Lone_powerIn lp hig pri flo sro u hr z = R
  unfold f_Lone_powerIn at hf
  refine Ret.of [(0, .ref lb), (1, .ref d), (2, .int (nI u)), (3, .int (nI hr)), (4, .int z)] (by decide) (Nat.le_of_ble_eq_true rfl) rfl ?_
  rintro Z rfl X Y
  refine r_aload_n X 1 dX3_powerIn_0 rfl ?_
  refine gf_X3_57 X dX3_powerIn_1 (hv_d 0 _ rfl) rfl ?_
  refine r_iload_n X 2 dX3_powerIn_4 rfl ?_
  refine r_ialdn X (k0 := u) dX3_powerIn_5 (hv_d 5 _ rfl) (by omega) (by decide) ?_
  refine r_i2l X dX3_powerIn_6 ?_
  refine r_aload_n X 0 dX3_powerIn_7 rfl ?_
  refine gf_X3_9 X dX3_powerIn_8 (hv_l 0 _ rfl) rfl ?_
  refine r_iload_n X 3 dX3_powerIn_11 rfl ?_
  refine r_laldn X (k0 := hr) dX3_powerIn_12 (hv_l 1 _ rfl) (by omega) (by decide) ?_
  refine r_lcmp_lt X 25 dX3_powerIn_13 dX3_powerIn_14 rfl (fun c1 => ?_) (fun c1 => ?_)
  · rw [if_pos c1] at hf
    refine r_iload X 4 dX3_powerIn_25 rfl ?_
    refine m_join (P := SW Z 47 [] [.long (if z = (0 : Int32) then (hig u).toInt64 else (sro u).toInt64)] h) (fun K => ?_) ?_
    · refine r_if_eq X 40 dX3_powerIn_27 rfl (fun c2 => ?_) (fun c2 => ?_)
      · skip
        refine r_aload_n X 1 dX3_powerIn_40 rfl ?_
        refine gf_X3_65 X dX3_powerIn_41 (hv_d 0 _ rfl) rfl ?_
        refine r_iload_n X 2 dX3_powerIn_44 rfl ?_
        refine r_ialdn X (k0 := u) dX3_powerIn_45 (hv_d 4 _ rfl) (by omega) (by decide) ?_
        refine r_i2l X dX3_powerIn_46 ?_
        refine SW.pick [] [] rfl ?_
        try simp only [if_pos c2] at K ⊢
        exact K
      · skip
        refine r_aload_n X 1 dX3_powerIn_30 rfl ?_
        refine gf_X3_62 X dX3_powerIn_31 (hv_d 0 _ rfl) rfl ?_
        refine r_iload_n X 2 dX3_powerIn_34 rfl ?_
        refine r_ialdn X (k0 := u) dX3_powerIn_35 (hv_d 12 _ rfl) (by omega) (by decide) ?_
        refine r_i2l X dX3_powerIn_36 ?_
        refine r_goto X 47 dX3_powerIn_37 rfl ?_
        refine SW.pick [] [] rfl ?_
        try simp only [if_neg c2] at K ⊢
        exact K
    try subst hf
    exact r_lreturn X Y dX3_powerIn_47 rfl rfl
  · rw [if_neg c1] at hf
    refine r_aload_n X 1 dX3_powerIn_17 rfl ?_
    refine gf_X3_59 X dX3_powerIn_18 (hv_d 0 _ rfl) rfl ?_
    refine r_iload_n X 2 dX3_powerIn_21 rfl ?_
    refine r_ialdn X (k0 := u) dX3_powerIn_22 (hv_d 11 _ rfl) (by omega) (by decide) ?_
    refine r_i2l X dX3_powerIn_23 ?_
    try subst hf
    exact r_lreturn X Y dX3_powerIn_24 rfl rfl

def f_Lone_lossIn (lp : Nat → Int64) (hig : Nat → Int32) (pri : Nat → Int32) (flo : Nat → Int32) (sro : Nat → Int32) (u : Nat) (hr : Nat) (z : Int32) : Int64 := (f_Lone_powerIn lp hig pri flo sro u hr z) * (((pri u).toInt64) - (lp hr))
set_option maxRecDepth 20000 in
set_option maxHeartbeats 4000000 in
theorem c_Lone_lossIn {G : mG} {h : mHp} {d : Nat} {lb : Nat} {lp : Nat → Int64} {lg : Nat → Int64} {lz : Nat → Int64} {ls : Int64} {lo : Int32} {H : Nat} {U : Nat} {res : Int32} {dem : Nat → Int32} {kin : Nat → Int32} {low : Nat → Int32} {hig : Nat → Int32} {pri : Nat → Int32} {sta : Nat → Int32} {ups : Nat → Int32} {dow : Nat → Int32} {onn : Nat → Int32} {ord : Nat → Nat} {flo : Nat → Int32} {sro : Nat → Int32} {sco : Nat → Int32} {u : Nat} {hr : Nat} {z : Int32} (hv_l : isV h lb (lonL lb lp lg lz ls lo)) (hv_d : isV h d (dayL d H U res dem kin low hig pri sta ups dow onn ord flo sro sco))  (hu : u < 4) (hr6 : hr < 6) : Ret G 1 mX3_lossIn [.ref lb, .ref d, .int (nI u), .int (nI hr), .int z] h (some (.long (f_Lone_lossIn lp hig pri flo sro u hr z))) h := by
  generalize hf : f_Lone_lossIn lp hig pri flo sro u hr z = R
  unfold f_Lone_lossIn at hf
  refine Ret.of [(0, .ref lb), (1, .ref d), (2, .int (nI u)), (3, .int (nI hr)), (4, .int z)] (by decide) (Nat.le_of_ble_eq_true rfl) rfl ?_
  rintro Z rfl X Y
  refine r_aload_n X 0 dX3_lossIn_0 rfl ?_
  refine r_aload_n X 1 dX3_lossIn_1 rfl ?_
  refine r_iload_n X 2 dX3_lossIn_2 rfl ?_
  refine r_iload_n X 3 dX3_lossIn_3 rfl ?_
  refine r_iload X 4 dX3_lossIn_4 rfl ?_
  refine cl_X3_54 X (by decide) dX3_lossIn_6 (Nat.le_of_ble_eq_true rfl) (hv_l 0 _ rfl) (c_Lone_powerIn hv_l hv_d (by first | assumption | omega) (by first | assumption | omega)) ?_
  refine r_aload_n X 1 dX3_lossIn_9 rfl ?_
  refine gf_X3_57 X dX3_lossIn_10 (hv_d 0 _ rfl) rfl ?_
  refine r_iload_n X 2 dX3_lossIn_13 rfl ?_
  refine r_ialdn X (k0 := u) dX3_lossIn_14 (hv_d 5 _ rfl) (by omega) (by decide) ?_
  refine r_i2l X dX3_lossIn_15 ?_
  refine r_aload_n X 0 dX3_lossIn_16 rfl ?_
  refine gf_X3_9 X dX3_lossIn_17 (hv_l 0 _ rfl) rfl ?_
  refine r_iload_n X 3 dX3_lossIn_20 rfl ?_
  refine r_laldn X (k0 := hr) dX3_lossIn_21 (hv_l 1 _ rfl) (by omega) (by decide) ?_
  refine r_lsub X dX3_lossIn_22 ?_
  refine r_lmul X dX3_lossIn_23 ?_
  try subst hf
  exact r_lreturn X Y dX3_lossIn_24 rfl rfl

def f_Lone_givenIn (lp : Nat → Int64) (lo : Int32) (hig : Nat → Int32) (pri : Nat → Int32) (flo : Nat → Int32) (sro : Nat → Int32) (u : Nat) (hr : Nat) : Int64 := (if ((lo >>> ((nI hr) &&& 31)) &&& (1 : Int32)) = (0 : Int32) then (0 : Int64) else (f_Lone_powerIn lp hig pri flo sro u hr (if (((f_startsAmong lo) >>> ((nI hr) &&& 31)) &&& (1 : Int32)) = (1 : Int32) then (1 : Int32) else (0 : Int32))))
set_option maxRecDepth 20000 in
set_option maxHeartbeats 4000000 in
theorem c_Lone_givenIn {G : mG} {h : mHp} {d : Nat} {lb : Nat} {lp : Nat → Int64} {lg : Nat → Int64} {lz : Nat → Int64} {ls : Int64} {lo : Int32} {H : Nat} {U : Nat} {res : Int32} {dem : Nat → Int32} {kin : Nat → Int32} {low : Nat → Int32} {hig : Nat → Int32} {pri : Nat → Int32} {sta : Nat → Int32} {ups : Nat → Int32} {dow : Nat → Int32} {onn : Nat → Int32} {ord : Nat → Nat} {flo : Nat → Int32} {sro : Nat → Int32} {sco : Nat → Int32} {u : Nat} {hr : Nat} (hv_l : isV h lb (lonL lb lp lg lz ls lo)) (hv_d : isV h d (dayL d H U res dem kin low hig pri sta ups dow onn ord flo sro sco))  (hu : u < 4) (hr6 : hr < 6) : Ret G 1 mX3_givenIn [.ref lb, .ref d, .int (nI u), .int (nI hr)] h (some (.long (f_Lone_givenIn lp lo hig pri flo sro u hr))) h := by
  generalize hf : f_Lone_givenIn lp lo hig pri flo sro u hr = R
  unfold f_Lone_givenIn at hf
  refine Ret.of [(0, .ref lb), (1, .ref d), (2, .int (nI u)), (3, .int (nI hr))] (by decide) (Nat.le_of_ble_eq_true rfl) rfl ?_
  rintro Z rfl X Y
  refine r_aload_n X 0 dX3_givenIn_0 rfl ?_
  refine gf_X3_25 X dX3_givenIn_1 (hv_l 0 _ rfl) rfl ?_
  refine r_iload_n X 3 dX3_givenIn_4 rfl ?_
  refine r_ishr X dX3_givenIn_5 ?_
  refine r_iconst X (1 : Int32) dX3_givenIn_6 (by decide) ?_
  refine r_iand X dX3_givenIn_7 ?_
  refine r_if_ne X 13 dX3_givenIn_8 rfl (fun c1 => ?_) (fun c1 => ?_)
  · rw [if_neg c1] at hf
    refine r_aload_n X 0 dX3_givenIn_13 rfl ?_
    refine r_aload_n X 1 dX3_givenIn_14 rfl ?_
    refine r_iload_n X 2 dX3_givenIn_15 rfl ?_
    refine r_iload_n X 3 dX3_givenIn_16 rfl ?_
    refine r_aload_n X 0 dX3_givenIn_17 rfl ?_
    refine gf_X3_25 X dX3_givenIn_18 (hv_l 0 _ rfl) rfl ?_
    refine cl_X3_68 X (by decide) dX3_givenIn_21 (Nat.le_of_ble_eq_true rfl) (c_startsAmong  ) ?_
    refine r_iload_n X 3 dX3_givenIn_24 rfl ?_
    refine r_ishr X dX3_givenIn_25 ?_
    refine r_iconst X (1 : Int32) dX3_givenIn_26 (by decide) ?_
    refine r_iand X dX3_givenIn_27 ?_
    refine r_iconst X (1 : Int32) dX3_givenIn_28 (by decide) ?_
    refine m_join (P := SW Z 37 [] [.int (if (((f_startsAmong lo) >>> ((nI hr) &&& 31)) &&& (1 : Int32)) = (1 : Int32) then (1 : Int32) else (0 : Int32)), .int (nI hr), .int (nI u), .ref d, .ref lb] h) (fun K => ?_) ?_
    · refine r_icmp_ne X 36 dX3_givenIn_29 rfl (fun c2 => ?_) (fun c2 => ?_)
      · skip
        refine r_iconst X (0 : Int32) dX3_givenIn_36 (by decide) ?_
        refine SW.pick [] [] rfl ?_
        try simp only [if_neg c2] at K ⊢
        exact K
      · skip
        refine r_iconst X (1 : Int32) dX3_givenIn_32 (by decide) ?_
        refine r_goto X 37 dX3_givenIn_33 rfl ?_
        refine SW.pick [] [] rfl ?_
        try simp only [if_pos c2] at K ⊢
        exact K
    refine cl_X3_54 X (by decide) dX3_givenIn_37 (Nat.le_of_ble_eq_true rfl) (hv_l 0 _ rfl) (c_Lone_powerIn hv_l hv_d (by first | assumption | omega) (by first | assumption | omega)) ?_
    try subst hf
    exact r_lreturn X Y dX3_givenIn_40 rfl rfl
  · rw [if_pos c1] at hf
    refine r_lconst X (0 : Int64) dX3_givenIn_11 (by decide) ?_
    try subst hf
    exact r_lreturn X Y dX3_givenIn_12 rfl rfl

def f_Lone_fillLosses_L53s (n4 : Nat) (x5 : Int64) (x7 : Int64) (k53 : Nat) (lz : Nat → Int64) : (Nat → Int64) := vp_updL lz (k53 ||| n4) ((lz k53) + (if (if ((nI k53) &&& ((nI n4) >>> ((1 : Int32) &&& 31))) = (0 : Int32) then (0 : Int32) else (1 : Int32)) = (0 : Int32) then x7 else x5))
def f_Lone_fillLosses_L53 (n4 : Nat) (x5 : Int64) (x7 : Int64) (lz : Nat → Int64) : Nat → (Nat → Int64)
  | 0 => lz
  | k53 + 1 => f_Lone_fillLosses_L53s n4 x5 x7 k53 (f_Lone_fillLosses_L53 n4 x5 x7 lz k53)
def f_Lone_fillLosses_L9s (lp : Nat → Int64) (hig : Nat → Int32) (pri : Nat → Int32) (flo : Nat → Int32) (sro : Nat → Int32) (sco : Nat → Int32) (n2 : Nat) (k9 : Nat) (lz : Nat → Int64) : (Nat → Int64) := ((fun q1 => q1) (f_Lone_fillLosses_L53 (2 ^ k9) (f_Lone_lossIn lp hig pri flo sro n2 k9 (0 : Int32)) ((f_Lone_lossIn lp hig pri flo sro n2 k9 (1 : Int32)) + ((sco n2).toInt64)) lz (2 ^ k9)))
def f_Lone_fillLosses_L9 (lp : Nat → Int64) (hig : Nat → Int32) (pri : Nat → Int32) (flo : Nat → Int32) (sro : Nat → Int32) (sco : Nat → Int32) (n2 : Nat) (lz : Nat → Int64) : Nat → (Nat → Int64)
  | 0 => lz
  | k9 + 1 => f_Lone_fillLosses_L9s lp hig pri flo sro sco n2 k9 (f_Lone_fillLosses_L9 lp hig pri flo sro sco n2 lz k9)
def f_Lone_fillLosses (lp : Nat → Int64) (lz : Nat → Int64) (H : Nat) (hig : Nat → Int32) (pri : Nat → Int32) (flo : Nat → Int32) (sro : Nat → Int32) (sco : Nat → Int32) (u : Nat) : (Nat → Int64) := (f_Lone_fillLosses_L9 lp hig pri flo sro sco u (vp_updL lz 0 (0 : Int64)) H)
set_option maxRecDepth 20000 in
set_option maxHeartbeats 4000000 in
theorem c_Lone_fillLosses {G : mG} {h : mHp} {d : Nat} {lb : Nat} {lp : Nat → Int64} {lg : Nat → Int64} {lz : Nat → Int64} {ls : Int64} {lo : Int32} {H : Nat} {U : Nat} {res : Int32} {dem : Nat → Int32} {kin : Nat → Int32} {low : Nat → Int32} {hig : Nat → Int32} {pri : Nat → Int32} {sta : Nat → Int32} {ups : Nat → Int32} {dow : Nat → Int32} {onn : Nat → Int32} {ord : Nat → Nat} {flo : Nat → Int32} {sro : Nat → Int32} {sco : Nat → Int32} {u : Nat} (hw_d : isV h d (dayL d H U res dem kin low hig pri sta ups dow onn ord flo sro sco)) (dj_d_l : d + 14 ≤ lb ∨ lb + 4 ≤ d) (hu : u < 4) (hH : H ≤ 6) : Ret G 2 mX3_fillLosses [.ref lb, .ref d, .int (nI u)] (ov h lb (lonL lb lp lg lz ls lo)) none (ov h lb (lonL lb lp lg (f_Lone_fillLosses lp lz H hig pri flo sro sco u) ls lo)) := by
  generalize hf : f_Lone_fillLosses lp lz H hig pri flo sro sco u = R
  unfold f_Lone_fillLosses at hf
  refine Ret.of [(0, .ref lb), (1, .ref d), (2, .int (nI u))] (by decide) (Nat.le_of_ble_eq_true rfl) rfl ?_
  rintro Z rfl X Y
  have hv_l : isV (ov h lb (lonL lb lp lg lz ls lo)) lb (lonL lb lp lg lz ls lo) := ov_isV
  have hv_d : isV (ov h lb (lonL lb lp lg lz ls lo)) d (dayL d H U res dem kin low hig pri sta ups dow onn ord flo sro sco) := isV_ov dj_d_l (hw_d)
  refine r_aload_n X 0 dX3_fillLosses_0 rfl ?_
  refine gf_X3_18 X dX3_fillLosses_1 (hv_l 0 _ rfl) rfl ?_
  refine r_iconst X (0 : Int32) dX3_fillLosses_4 (by decide) ?_
  refine r_lconst X (0 : Int64) dX3_fillLosses_5 (by decide) ?_
  refine r_lastn X (k0 := 0) dX3_fillLosses_6 (hv_l 3 _ rfl) (by omega) (by first | decide | omega) ?_
  refine SW.heq (h2 := (ov h lb (lonL lb lp lg (vp_updL lz 0 (0 : Int64)) ls lo))) (ov_up 3 (Nat.le_of_ble_eq_true rfl) rfl) ?_
  have hv_l : isV (ov h lb (lonL lb lp lg (vp_updL lz 0 (0 : Int64)) ls lo)) lb (lonL lb lp lg (vp_updL lz 0 (0 : Int64)) ls lo) := ov_isV
  have hv_d : isV (ov h lb (lonL lb lp lg (vp_updL lz 0 (0 : Int64)) ls lo)) d (dayL d H U res dem kin low hig pri sta ups dow onn ord flo sro sco) := isV_ov dj_d_l (hw_d)
  refine r_iconst X (0 : Int32) dX3_fillLosses_7 (by decide) ?_
  refine r_istore_n [(0, .ref lb), (1, .ref d), (2, .int (nI u)), (3, .int (0 : Int32))] X dX3_fillLosses_8 rfl (by decide) rfl ?_
  refine loop_up (P := fun k6 => SW Z 9 [(0, .ref lb), (1, .ref d), (2, .int (nI u)), (3, .int (nI k6))] [] (ov h lb (lonL lb lp lg (f_Lone_fillLosses_L9 lp hig pri flo sro sco u (vp_updL lz 0 (0 : Int64)) k6) ls lo))) H ?_ ?_ 0 (Nat.zero_le _)
  rotate_left
  · intro k6 hk6 ih
    have hv_l : isV (ov h lb (lonL lb lp lg (f_Lone_fillLosses_L9 lp hig pri flo sro sco u (vp_updL lz 0 (0 : Int64)) k6) ls lo)) lb (lonL lb lp lg (f_Lone_fillLosses_L9 lp hig pri flo sro sco u (vp_updL lz 0 (0 : Int64)) k6) ls lo) := ov_isV
    have hv_d : isV (ov h lb (lonL lb lp lg (f_Lone_fillLosses_L9 lp hig pri flo sro sco u (vp_updL lz 0 (0 : Int64)) k6) ls lo)) d (dayL d H U res dem kin low hig pri sta ups dow onn ord flo sro sco) := isV_ov dj_d_l (hw_d)
    refine r_iload_n X 3 dX3_fillLosses_9 rfl ?_
    refine r_aload_n X 1 dX3_fillLosses_10 rfl ?_
    refine gf_X3_43 X dX3_fillLosses_11 (hv_d 0 _ rfl) rfl ?_
    refine r_icmp_ge X 119 dX3_fillLosses_14 rfl (fun z => absurd (nI_lt (a := k6) (b := H) (by omega) (by omega)) z) (fun _ => ?_)
    refine r_iconst X (1 : Int32) dX3_fillLosses_17 (by decide) ?_
    refine r_iload_n X 3 dX3_fillLosses_18 rfl ?_
    refine r_ishl1n X (k0 := k6) dX3_fillLosses_19 (by omega) ?_
    refine r_istore [(0, .ref lb), (1, .ref d), (2, .int (nI u)), (3, .int (nI k6)), (4, .int (nI (2 ^ k6)))] X dX3_fillLosses_20 (by decide) rfl ?_
    have h32 : 2 ^ k6 ≤ 32 := pow32 (by omega)
    refine r_aload_n X 0 dX3_fillLosses_22 rfl ?_
    refine r_aload_n X 1 dX3_fillLosses_23 rfl ?_
    refine r_iload_n X 2 dX3_fillLosses_24 rfl ?_
    refine r_iload_n X 3 dX3_fillLosses_25 rfl ?_
    refine r_iconst X (0 : Int32) dX3_fillLosses_26 (by decide) ?_
    refine cl_X3_46 X (by decide) dX3_fillLosses_27 (Nat.le_of_ble_eq_true rfl) (hv_l 0 _ rfl) (c_Lone_lossIn hv_l hv_d (by first | assumption | omega) (by first | assumption | omega)) ?_
    refine r_lstore [(0, .ref lb), (1, .ref d), (2, .int (nI u)), (3, .int (nI k6)), (4, .int (nI (2 ^ k6))), (5, .long (f_Lone_lossIn lp hig pri flo sro u k6 (0 : Int32)))] X dX3_fillLosses_30 (by decide) rfl ?_
    refine r_aload_n X 0 dX3_fillLosses_32 rfl ?_
    refine r_aload_n X 1 dX3_fillLosses_33 rfl ?_
    refine r_iload_n X 2 dX3_fillLosses_34 rfl ?_
    refine r_iload_n X 3 dX3_fillLosses_35 rfl ?_
    refine r_iconst X (1 : Int32) dX3_fillLosses_36 (by decide) ?_
    refine cl_X3_46 X (by decide) dX3_fillLosses_37 (Nat.le_of_ble_eq_true rfl) (hv_l 0 _ rfl) (c_Lone_lossIn hv_l hv_d (by first | assumption | omega) (by first | assumption | omega)) ?_
    refine r_aload_n X 1 dX3_fillLosses_40 rfl ?_
    refine gf_X3_50 X dX3_fillLosses_41 (hv_d 0 _ rfl) rfl ?_
    refine r_iload_n X 2 dX3_fillLosses_44 rfl ?_
    refine r_ialdn X (k0 := u) dX3_fillLosses_45 (hv_d 13 _ rfl) (by omega) (by decide) ?_
    refine r_i2l X dX3_fillLosses_46 ?_
    refine r_ladd X dX3_fillLosses_47 ?_
    refine r_lstore [(0, .ref lb), (1, .ref d), (2, .int (nI u)), (3, .int (nI k6)), (4, .int (nI (2 ^ k6))), (5, .long (f_Lone_lossIn lp hig pri flo sro u k6 (0 : Int32))), (7, .long ((f_Lone_lossIn lp hig pri flo sro u k6 (1 : Int32)) + ((sco u).toInt64)))] X dX3_fillLosses_48 (by decide) rfl ?_
    refine r_iconst X (0 : Int32) dX3_fillLosses_50 (by decide) ?_
    refine r_istore [(0, .ref lb), (1, .ref d), (2, .int (nI u)), (3, .int (nI k6)), (4, .int (nI (2 ^ k6))), (5, .long (f_Lone_lossIn lp hig pri flo sro u k6 (0 : Int32))), (7, .long ((f_Lone_lossIn lp hig pri flo sro u k6 (1 : Int32)) + ((sco u).toInt64))), (9, .int (0 : Int32))] X dX3_fillLosses_51 (by decide) rfl ?_
    refine loop_up (P := fun k7 => SW Z 53 [(0, .ref lb), (1, .ref d), (2, .int (nI u)), (3, .int (nI k6)), (4, .int (nI (2 ^ k6))), (5, .long (f_Lone_lossIn lp hig pri flo sro u k6 (0 : Int32))), (7, .long ((f_Lone_lossIn lp hig pri flo sro u k6 (1 : Int32)) + ((sco u).toInt64))), (9, .int (nI k7))] [] (ov h lb (lonL lb lp lg (f_Lone_fillLosses_L53 (2 ^ k6) (f_Lone_lossIn lp hig pri flo sro u k6 (0 : Int32)) ((f_Lone_lossIn lp hig pri flo sro u k6 (1 : Int32)) + ((sco u).toInt64)) (f_Lone_fillLosses_L9 lp hig pri flo sro sco u (vp_updL lz 0 (0 : Int64)) k6) k7) ls lo))) (2 ^ k6) ?_ ?_ 0 (Nat.zero_le _)
    rotate_left
    · intro k7 hk7 ih
      have hv_l : isV (ov h lb (lonL lb lp lg (f_Lone_fillLosses_L53 (2 ^ k6) (f_Lone_lossIn lp hig pri flo sro u k6 (0 : Int32)) ((f_Lone_lossIn lp hig pri flo sro u k6 (1 : Int32)) + ((sco u).toInt64)) (f_Lone_fillLosses_L9 lp hig pri flo sro sco u (vp_updL lz 0 (0 : Int64)) k6) k7) ls lo)) lb (lonL lb lp lg (f_Lone_fillLosses_L53 (2 ^ k6) (f_Lone_lossIn lp hig pri flo sro u k6 (0 : Int32)) ((f_Lone_lossIn lp hig pri flo sro u k6 (1 : Int32)) + ((sco u).toInt64)) (f_Lone_fillLosses_L9 lp hig pri flo sro sco u (vp_updL lz 0 (0 : Int64)) k6) k7) ls lo) := ov_isV
      have hv_d : isV (ov h lb (lonL lb lp lg (f_Lone_fillLosses_L53 (2 ^ k6) (f_Lone_lossIn lp hig pri flo sro u k6 (0 : Int32)) ((f_Lone_lossIn lp hig pri flo sro u k6 (1 : Int32)) + ((sco u).toInt64)) (f_Lone_fillLosses_L9 lp hig pri flo sro sco u (vp_updL lz 0 (0 : Int64)) k6) k7) ls lo)) d (dayL d H U res dem kin low hig pri sta ups dow onn ord flo sro sco) := isV_ov dj_d_l (hw_d)
      refine r_iload X 7 dX3_fillLosses_53 rfl ?_
      refine r_iload X 4 dX3_fillLosses_55 rfl ?_
      refine r_icmp_ge X 113 dX3_fillLosses_57 rfl (fun z => absurd (nI_lt (a := k7) (b := 2 ^ k6) (by omega) (by omega)) z) (fun _ => ?_)
      refine r_iload X 7 dX3_fillLosses_60 rfl ?_
      refine r_iload X 4 dX3_fillLosses_62 rfl ?_
      refine r_iconst X (1 : Int32) dX3_fillLosses_64 (by decide) ?_
      refine r_ishr X dX3_fillLosses_65 ?_
      refine r_iand X dX3_fillLosses_66 ?_
      refine m_join (P := SW Z 75 [(0, .ref lb), (1, .ref d), (2, .int (nI u)), (3, .int (nI k6)), (4, .int (nI (2 ^ k6))), (5, .long (f_Lone_lossIn lp hig pri flo sro u k6 (0 : Int32))), (7, .long ((f_Lone_lossIn lp hig pri flo sro u k6 (1 : Int32)) + ((sco u).toInt64))), (9, .int (nI k7))] [.int (if ((nI k7) &&& ((nI (2 ^ k6)) >>> ((1 : Int32) &&& 31))) = (0 : Int32) then (0 : Int32) else (1 : Int32))] (ov h lb (lonL lb lp lg (f_Lone_fillLosses_L53 (2 ^ k6) (f_Lone_lossIn lp hig pri flo sro u k6 (0 : Int32)) ((f_Lone_lossIn lp hig pri flo sro u k6 (1 : Int32)) + ((sco u).toInt64)) (f_Lone_fillLosses_L9 lp hig pri flo sro sco u (vp_updL lz 0 (0 : Int64)) k6) k7) ls lo))) (fun K => ?_) ?_
      · refine r_if_eq X 74 dX3_fillLosses_67 rfl (fun c8 => ?_) (fun c8 => ?_)
        · skip
          refine r_iconst X (0 : Int32) dX3_fillLosses_74 (by decide) ?_
          try simp only [if_pos c8] at K ⊢
          exact K
        · skip
          refine r_iconst X (1 : Int32) dX3_fillLosses_70 (by decide) ?_
          refine r_goto X 75 dX3_fillLosses_71 rfl ?_
          try simp only [if_neg c8] at K ⊢
          exact K
      have hv_l : isV (ov h lb (lonL lb lp lg (f_Lone_fillLosses_L53 (2 ^ k6) (f_Lone_lossIn lp hig pri flo sro u k6 (0 : Int32)) ((f_Lone_lossIn lp hig pri flo sro u k6 (1 : Int32)) + ((sco u).toInt64)) (f_Lone_fillLosses_L9 lp hig pri flo sro sco u (vp_updL lz 0 (0 : Int64)) k6) k7) ls lo)) lb (lonL lb lp lg (f_Lone_fillLosses_L53 (2 ^ k6) (f_Lone_lossIn lp hig pri flo sro u k6 (0 : Int32)) ((f_Lone_lossIn lp hig pri flo sro u k6 (1 : Int32)) + ((sco u).toInt64)) (f_Lone_fillLosses_L9 lp hig pri flo sro sco u (vp_updL lz 0 (0 : Int64)) k6) k7) ls lo) := ov_isV
      have hv_d : isV (ov h lb (lonL lb lp lg (f_Lone_fillLosses_L53 (2 ^ k6) (f_Lone_lossIn lp hig pri flo sro u k6 (0 : Int32)) ((f_Lone_lossIn lp hig pri flo sro u k6 (1 : Int32)) + ((sco u).toInt64)) (f_Lone_fillLosses_L9 lp hig pri flo sro sco u (vp_updL lz 0 (0 : Int64)) k6) k7) ls lo)) d (dayL d H U res dem kin low hig pri sta ups dow onn ord flo sro sco) := isV_ov dj_d_l (hw_d)
      refine r_istore [(0, .ref lb), (1, .ref d), (2, .int (nI u)), (3, .int (nI k6)), (4, .int (nI (2 ^ k6))), (5, .long (f_Lone_lossIn lp hig pri flo sro u k6 (0 : Int32))), (7, .long ((f_Lone_lossIn lp hig pri flo sro u k6 (1 : Int32)) + ((sco u).toInt64))), (9, .int (nI k7)), (10, .int (if ((nI k7) &&& ((nI (2 ^ k6)) >>> ((1 : Int32) &&& 31))) = (0 : Int32) then (0 : Int32) else (1 : Int32)))] X dX3_fillLosses_75 (by decide) rfl ?_
      refine r_aload_n X 0 dX3_fillLosses_77 rfl ?_
      refine gf_X3_18 X dX3_fillLosses_78 (hv_l 0 _ rfl) rfl ?_
      refine r_iload X 7 dX3_fillLosses_81 rfl ?_
      refine r_iload X 4 dX3_fillLosses_83 rfl ?_
      refine r_iorn X (a := k7) (b := 2 ^ k6) dX3_fillLosses_85 ?_
      refine r_aload_n X 0 dX3_fillLosses_86 rfl ?_
      refine gf_X3_18 X dX3_fillLosses_87 (hv_l 0 _ rfl) rfl ?_
      refine r_iload X 7 dX3_fillLosses_90 rfl ?_
      refine r_laldn X (k0 := k7) dX3_fillLosses_92 (hv_l 3 _ rfl) (by omega) (by decide) ?_
      refine r_iload X 8 dX3_fillLosses_93 rfl ?_
      refine m_join (P := SW Z 105 [(0, .ref lb), (1, .ref d), (2, .int (nI u)), (3, .int (nI k6)), (4, .int (nI (2 ^ k6))), (5, .long (f_Lone_lossIn lp hig pri flo sro u k6 (0 : Int32))), (7, .long ((f_Lone_lossIn lp hig pri flo sro u k6 (1 : Int32)) + ((sco u).toInt64))), (9, .int (nI k7))] [.long (if (if ((nI k7) &&& ((nI (2 ^ k6)) >>> ((1 : Int32) &&& 31))) = (0 : Int32) then (0 : Int32) else (1 : Int32)) = (0 : Int32) then (f_Lone_lossIn lp hig pri flo sro u k6 (1 : Int32)) + ((sco u).toInt64) else (f_Lone_lossIn lp hig pri flo sro u k6 (0 : Int32))), .long ((f_Lone_fillLosses_L53 (2 ^ k6) (f_Lone_lossIn lp hig pri flo sro u k6 (0 : Int32)) ((f_Lone_lossIn lp hig pri flo sro u k6 (1 : Int32)) + ((sco u).toInt64)) (f_Lone_fillLosses_L9 lp hig pri flo sro sco u (vp_updL lz 0 (0 : Int64)) k6) k7) k7), .int (nI (k7 ||| (2 ^ k6))), .ref (lb + 3)] (ov h lb (lonL lb lp lg (f_Lone_fillLosses_L53 (2 ^ k6) (f_Lone_lossIn lp hig pri flo sro u k6 (0 : Int32)) ((f_Lone_lossIn lp hig pri flo sro u k6 (1 : Int32)) + ((sco u).toInt64)) (f_Lone_fillLosses_L9 lp hig pri flo sro sco u (vp_updL lz 0 (0 : Int64)) k6) k7) ls lo))) (fun K => ?_) ?_
      · refine r_if_eq X 103 dX3_fillLosses_95 rfl (fun c9 => ?_) (fun c9 => ?_)
        · skip
          refine r_lload X 6 dX3_fillLosses_103 rfl ?_
          refine SW.pick [0, 1, 2, 3, 4, 5, 6, 7] [(0, .ref lb), (1, .ref d), (2, .int (nI u)), (3, .int (nI k6)), (4, .int (nI (2 ^ k6))), (5, .long (f_Lone_lossIn lp hig pri flo sro u k6 (0 : Int32))), (7, .long ((f_Lone_lossIn lp hig pri flo sro u k6 (1 : Int32)) + ((sco u).toInt64))), (9, .int (nI k7))] rfl ?_
          try simp only [if_pos c9] at K ⊢
          exact K
        · skip
          refine r_lload X 5 dX3_fillLosses_98 rfl ?_
          refine r_goto X 105 dX3_fillLosses_100 rfl ?_
          refine SW.pick [0, 1, 2, 3, 4, 5, 6, 7] [(0, .ref lb), (1, .ref d), (2, .int (nI u)), (3, .int (nI k6)), (4, .int (nI (2 ^ k6))), (5, .long (f_Lone_lossIn lp hig pri flo sro u k6 (0 : Int32))), (7, .long ((f_Lone_lossIn lp hig pri flo sro u k6 (1 : Int32)) + ((sco u).toInt64))), (9, .int (nI k7))] rfl ?_
          try simp only [if_neg c9] at K ⊢
          exact K
      have hv_l : isV (ov h lb (lonL lb lp lg (f_Lone_fillLosses_L53 (2 ^ k6) (f_Lone_lossIn lp hig pri flo sro u k6 (0 : Int32)) ((f_Lone_lossIn lp hig pri flo sro u k6 (1 : Int32)) + ((sco u).toInt64)) (f_Lone_fillLosses_L9 lp hig pri flo sro sco u (vp_updL lz 0 (0 : Int64)) k6) k7) ls lo)) lb (lonL lb lp lg (f_Lone_fillLosses_L53 (2 ^ k6) (f_Lone_lossIn lp hig pri flo sro u k6 (0 : Int32)) ((f_Lone_lossIn lp hig pri flo sro u k6 (1 : Int32)) + ((sco u).toInt64)) (f_Lone_fillLosses_L9 lp hig pri flo sro sco u (vp_updL lz 0 (0 : Int64)) k6) k7) ls lo) := ov_isV
      have hv_d : isV (ov h lb (lonL lb lp lg (f_Lone_fillLosses_L53 (2 ^ k6) (f_Lone_lossIn lp hig pri flo sro u k6 (0 : Int32)) ((f_Lone_lossIn lp hig pri flo sro u k6 (1 : Int32)) + ((sco u).toInt64)) (f_Lone_fillLosses_L9 lp hig pri flo sro sco u (vp_updL lz 0 (0 : Int64)) k6) k7) ls lo)) d (dayL d H U res dem kin low hig pri sta ups dow onn ord flo sro sco) := isV_ov dj_d_l (hw_d)
      refine r_ladd X dX3_fillLosses_105 ?_
      refine r_lastn X (k0 := k7 ||| (2 ^ k6)) dX3_fillLosses_106 (hv_l 3 _ rfl) (or_lt64 (by assumption) (by omega)) (by first | decide | omega) ?_
      refine SW.heq (h2 := (ov h lb (lonL lb lp lg (vp_updL (f_Lone_fillLosses_L53 (2 ^ k6) (f_Lone_lossIn lp hig pri flo sro u k6 (0 : Int32)) ((f_Lone_lossIn lp hig pri flo sro u k6 (1 : Int32)) + ((sco u).toInt64)) (f_Lone_fillLosses_L9 lp hig pri flo sro sco u (vp_updL lz 0 (0 : Int64)) k6) k7) (k7 ||| (2 ^ k6)) (((f_Lone_fillLosses_L53 (2 ^ k6) (f_Lone_lossIn lp hig pri flo sro u k6 (0 : Int32)) ((f_Lone_lossIn lp hig pri flo sro u k6 (1 : Int32)) + ((sco u).toInt64)) (f_Lone_fillLosses_L9 lp hig pri flo sro sco u (vp_updL lz 0 (0 : Int64)) k6) k7) k7) + (if (if ((nI k7) &&& ((nI (2 ^ k6)) >>> ((1 : Int32) &&& 31))) = (0 : Int32) then (0 : Int32) else (1 : Int32)) = (0 : Int32) then (f_Lone_lossIn lp hig pri flo sro u k6 (1 : Int32)) + ((sco u).toInt64) else (f_Lone_lossIn lp hig pri flo sro u k6 (0 : Int32))))) ls lo))) (ov_up 3 (Nat.le_of_ble_eq_true rfl) rfl) ?_
      have hv_l : isV (ov h lb (lonL lb lp lg (vp_updL (f_Lone_fillLosses_L53 (2 ^ k6) (f_Lone_lossIn lp hig pri flo sro u k6 (0 : Int32)) ((f_Lone_lossIn lp hig pri flo sro u k6 (1 : Int32)) + ((sco u).toInt64)) (f_Lone_fillLosses_L9 lp hig pri flo sro sco u (vp_updL lz 0 (0 : Int64)) k6) k7) (k7 ||| (2 ^ k6)) (((f_Lone_fillLosses_L53 (2 ^ k6) (f_Lone_lossIn lp hig pri flo sro u k6 (0 : Int32)) ((f_Lone_lossIn lp hig pri flo sro u k6 (1 : Int32)) + ((sco u).toInt64)) (f_Lone_fillLosses_L9 lp hig pri flo sro sco u (vp_updL lz 0 (0 : Int64)) k6) k7) k7) + (if (if ((nI k7) &&& ((nI (2 ^ k6)) >>> ((1 : Int32) &&& 31))) = (0 : Int32) then (0 : Int32) else (1 : Int32)) = (0 : Int32) then (f_Lone_lossIn lp hig pri flo sro u k6 (1 : Int32)) + ((sco u).toInt64) else (f_Lone_lossIn lp hig pri flo sro u k6 (0 : Int32))))) ls lo)) lb (lonL lb lp lg (vp_updL (f_Lone_fillLosses_L53 (2 ^ k6) (f_Lone_lossIn lp hig pri flo sro u k6 (0 : Int32)) ((f_Lone_lossIn lp hig pri flo sro u k6 (1 : Int32)) + ((sco u).toInt64)) (f_Lone_fillLosses_L9 lp hig pri flo sro sco u (vp_updL lz 0 (0 : Int64)) k6) k7) (k7 ||| (2 ^ k6)) (((f_Lone_fillLosses_L53 (2 ^ k6) (f_Lone_lossIn lp hig pri flo sro u k6 (0 : Int32)) ((f_Lone_lossIn lp hig pri flo sro u k6 (1 : Int32)) + ((sco u).toInt64)) (f_Lone_fillLosses_L9 lp hig pri flo sro sco u (vp_updL lz 0 (0 : Int64)) k6) k7) k7) + (if (if ((nI k7) &&& ((nI (2 ^ k6)) >>> ((1 : Int32) &&& 31))) = (0 : Int32) then (0 : Int32) else (1 : Int32)) = (0 : Int32) then (f_Lone_lossIn lp hig pri flo sro u k6 (1 : Int32)) + ((sco u).toInt64) else (f_Lone_lossIn lp hig pri flo sro u k6 (0 : Int32))))) ls lo) := ov_isV
      have hv_d : isV (ov h lb (lonL lb lp lg (vp_updL (f_Lone_fillLosses_L53 (2 ^ k6) (f_Lone_lossIn lp hig pri flo sro u k6 (0 : Int32)) ((f_Lone_lossIn lp hig pri flo sro u k6 (1 : Int32)) + ((sco u).toInt64)) (f_Lone_fillLosses_L9 lp hig pri flo sro sco u (vp_updL lz 0 (0 : Int64)) k6) k7) (k7 ||| (2 ^ k6)) (((f_Lone_fillLosses_L53 (2 ^ k6) (f_Lone_lossIn lp hig pri flo sro u k6 (0 : Int32)) ((f_Lone_lossIn lp hig pri flo sro u k6 (1 : Int32)) + ((sco u).toInt64)) (f_Lone_fillLosses_L9 lp hig pri flo sro sco u (vp_updL lz 0 (0 : Int64)) k6) k7) k7) + (if (if ((nI k7) &&& ((nI (2 ^ k6)) >>> ((1 : Int32) &&& 31))) = (0 : Int32) then (0 : Int32) else (1 : Int32)) = (0 : Int32) then (f_Lone_lossIn lp hig pri flo sro u k6 (1 : Int32)) + ((sco u).toInt64) else (f_Lone_lossIn lp hig pri flo sro u k6 (0 : Int32))))) ls lo)) d (dayL d H U res dem kin low hig pri sta ups dow onn ord flo sro sco) := isV_ov dj_d_l (hw_d)
      refine r_iinc [(0, .ref lb), (1, .ref d), (2, .int (nI u)), (3, .int (nI k6)), (4, .int (nI (2 ^ k6))), (5, .long (f_Lone_lossIn lp hig pri flo sro u k6 (0 : Int32))), (7, .long ((f_Lone_lossIn lp hig pri flo sro u k6 (1 : Int32)) + ((sco u).toInt64))), (9, .int (nI (k7 + 1)))] X (nI (k7 + 1)) 7 dX3_fillLosses_107 rfl (nI_succ _).symm (by decide) rfl ?_
      refine r_goto X 53 dX3_fillLosses_110 rfl ?_
      exact ih
    obtain ⟨q2, eq2⟩ : ∃ q, q = f_Lone_fillLosses_L53 (2 ^ k6) (f_Lone_lossIn lp hig pri flo sro u k6 (0 : Int32)) ((f_Lone_lossIn lp hig pri flo sro u k6 (1 : Int32)) + ((sco u).toInt64)) (f_Lone_fillLosses_L9 lp hig pri flo sro sco u (vp_updL lz 0 (0 : Int64)) k6) (2 ^ k6) := ⟨_, rfl⟩
    rw [← eq2]
    have hv_l : isV (ov h lb (lonL lb lp lg q2 ls lo)) lb (lonL lb lp lg q2 ls lo) := ov_isV
    have hv_d : isV (ov h lb (lonL lb lp lg q2 ls lo)) d (dayL d H U res dem kin low hig pri sta ups dow onn ord flo sro sco) := isV_ov dj_d_l (hw_d)
    refine r_iload X 7 dX3_fillLosses_53 rfl ?_
    refine r_iload X 4 dX3_fillLosses_55 rfl ?_
    refine r_icmp_ge X 113 dX3_fillLosses_57 rfl (fun _ => ?_) (fun z => absurd z (nI_nlt (a := 2 ^ k6) (b := 2 ^ k6) (by omega) (by omega)))
    refine r_iinc [(0, .ref lb), (1, .ref d), (2, .int (nI u)), (3, .int (nI (k6 + 1))), (4, .int (nI (2 ^ k6))), (5, .long (f_Lone_lossIn lp hig pri flo sro u k6 (0 : Int32))), (7, .long ((f_Lone_lossIn lp hig pri flo sro u k6 (1 : Int32)) + ((sco u).toInt64))), (9, .int (nI (2 ^ k6)))] X (nI (k6 + 1)) 3 dX3_fillLosses_113 rfl (nI_succ _).symm (by decide) rfl ?_
    refine r_goto X 9 dX3_fillLosses_116 rfl ?_
    refine SW.pick [0, 1, 2, 3] [(0, .ref lb), (1, .ref d), (2, .int (nI u)), (3, .int (nI (k6 + 1)))] rfl ?_
    subst eq2
    exact ih
  have hv_l : isV (ov h lb (lonL lb lp lg (f_Lone_fillLosses_L9 lp hig pri flo sro sco u (vp_updL lz 0 (0 : Int64)) H) ls lo)) lb (lonL lb lp lg (f_Lone_fillLosses_L9 lp hig pri flo sro sco u (vp_updL lz 0 (0 : Int64)) H) ls lo) := ov_isV
  have hv_d : isV (ov h lb (lonL lb lp lg (f_Lone_fillLosses_L9 lp hig pri flo sro sco u (vp_updL lz 0 (0 : Int64)) H) ls lo)) d (dayL d H U res dem kin low hig pri sta ups dow onn ord flo sro sco) := isV_ov dj_d_l (hw_d)
  refine r_iload_n X 3 dX3_fillLosses_9 rfl ?_
  refine r_aload_n X 1 dX3_fillLosses_10 rfl ?_
  refine gf_X3_43 X dX3_fillLosses_11 (hv_d 0 _ rfl) rfl ?_
  refine r_icmp_ge X 119 dX3_fillLosses_14 rfl (fun _ => ?_) (fun z => absurd z (nI_nlt (a := H) (b := H) (by omega) (by omega)))
  try subst hf
  exact r_return X Y dX3_fillLosses_119 rfl rfl

def f_Lone_decide_L13s (lz : Nat → Int64) (H : Nat) (kin : Nat → Int32) (ups : Nat → Int32) (dow : Nat → Int32) (n2 : Nat) (k13 : Nat) (ls : Int64) (lo : Int32) : Int64 × Int32 := ((if lo < (0 : Int32) then (if (f_Day_keeps H kin ups dow n2 (nI k13)) = (0 : Int32) then ls else lz k13) else (if (lz k13) < ls then (if (f_Day_keeps H kin ups dow n2 (nI k13)) = (0 : Int32) then ls else lz k13) else ls)), (if lo < (0 : Int32) then (if (f_Day_keeps H kin ups dow n2 (nI k13)) = (0 : Int32) then lo else nI k13) else (if (lz k13) < ls then (if (f_Day_keeps H kin ups dow n2 (nI k13)) = (0 : Int32) then lo else nI k13) else lo)))
def f_Lone_decide_L13 (lz : Nat → Int64) (H : Nat) (kin : Nat → Int32) (ups : Nat → Int32) (dow : Nat → Int32) (n2 : Nat) (ls : Int64) (lo : Int32) : Nat → Int64 × Int32
  | 0 => (ls, lo)
  | k13 + 1 => f_Lone_decide_L13s lz H kin ups dow n2 k13 ((f_Lone_decide_L13 lz H kin ups dow n2 ls lo k13).1) ((f_Lone_decide_L13 lz H kin ups dow n2 ls lo k13).2)
def f_Lone_decide (lp : Nat → Int64) (lz : Nat → Int64) (ls : Int64) (H : Nat) (kin : Nat → Int32) (hig : Nat → Int32) (pri : Nat → Int32) (ups : Nat → Int32) (dow : Nat → Int32) (flo : Nat → Int32) (sro : Nat → Int32) (sco : Nat → Int32) (u : Nat) : (Nat → Int64) × Int64 × Int32 := ((fun q1 => ((fun q2 => (q1, q2.1, q2.2)) (f_Lone_decide_L13 q1 H kin ups dow u ls (-1 : Int32) ((2 ^ H - 1) + 1)))) (f_Lone_fillLosses lp lz H hig pri flo sro sco u))
set_option maxRecDepth 20000 in
set_option maxHeartbeats 4000000 in
theorem c_Lone_decide {G : mG} {h : mHp} {d : Nat} {lb : Nat} {lp : Nat → Int64} {lg : Nat → Int64} {lz : Nat → Int64} {ls : Int64} {lo : Int32} {H : Nat} {U : Nat} {res : Int32} {dem : Nat → Int32} {kin : Nat → Int32} {low : Nat → Int32} {hig : Nat → Int32} {pri : Nat → Int32} {sta : Nat → Int32} {ups : Nat → Int32} {dow : Nat → Int32} {onn : Nat → Int32} {ord : Nat → Nat} {flo : Nat → Int32} {sro : Nat → Int32} {sco : Nat → Int32} {u : Nat} (hw_d : isV h d (dayL d H U res dem kin low hig pri sta ups dow onn ord flo sro sco)) (dj_d_l : d + 14 ≤ lb ∨ lb + 4 ≤ d) (hu : u < 4) (hH : H ≤ 6) : Ret G 3 mX3_decide [.ref lb, .ref d, .int (nI u)] (ov h lb (lonL lb lp lg lz ls lo)) none (ov h lb (lonL lb lp lg (f_Lone_decide lp lz ls H kin hig pri ups dow flo sro sco u).1 (f_Lone_decide lp lz ls H kin hig pri ups dow flo sro sco u).2.1 (f_Lone_decide lp lz ls H kin hig pri ups dow flo sro sco u).2.2)) := by
  generalize hf : f_Lone_decide lp lz ls H kin hig pri ups dow flo sro sco u = R
  unfold f_Lone_decide at hf
  refine Ret.of [(0, .ref lb), (1, .ref d), (2, .int (nI u))] (by decide) (Nat.le_of_ble_eq_true rfl) rfl ?_
  rintro Z rfl X Y
  have hv_l : isV (ov h lb (lonL lb lp lg lz ls lo)) lb (lonL lb lp lg lz ls lo) := ov_isV
  have hv_d : isV (ov h lb (lonL lb lp lg lz ls lo)) d (dayL d H U res dem kin low hig pri sta ups dow onn ord flo sro sco) := isV_ov dj_d_l (hw_d)
  have h64 : 2 ^ H ≤ 64 := pow64 hH
  refine r_aload_n X 0 dX3_decide_0 rfl ?_
  refine r_aload_n X 1 dX3_decide_1 rfl ?_
  refine r_iload_n X 2 dX3_decide_2 rfl ?_
  refine cl_X3_21 X (by decide) dX3_decide_3 (Nat.le_of_ble_eq_true rfl) (hv_l 0 _ rfl) (c_Lone_fillLosses hw_d (by first | assumption | omega) (by first | assumption | omega) (by first | assumption | omega)) ?_
  obtain ⟨q1, eq1⟩ : ∃ q, q = f_Lone_fillLosses lp lz H hig pri flo sro sco u := ⟨_, rfl⟩
  rw [← eq1]
  rw [← eq1] at hf
  try dsimp only at hf
  have hv_l : isV (ov h lb (lonL lb lp lg q1 ls lo)) lb (lonL lb lp lg q1 ls lo) := ov_isV
  have hv_d : isV (ov h lb (lonL lb lp lg q1 ls lo)) d (dayL d H U res dem kin low hig pri sta ups dow onn ord flo sro sco) := isV_ov dj_d_l (hw_d)
  refine r_aload_n X 0 dX3_decide_6 rfl ?_
  refine r_iconst X (-1 : Int32) dX3_decide_7 (by decide) ?_
  refine pf_X3_25 X dX3_decide_8 (hv_l 0 _ rfl) (Nat.le_of_ble_eq_true rfl) ?_
  refine SW.heq (h2 := (ov h lb (lonL lb lp lg q1 ls (-1 : Int32)))) (ov_up 0 (Nat.le_of_ble_eq_true rfl) rfl) ?_
  have hv_l : isV (ov h lb (lonL lb lp lg q1 ls (-1 : Int32))) lb (lonL lb lp lg q1 ls (-1 : Int32)) := ov_isV
  have hv_d : isV (ov h lb (lonL lb lp lg q1 ls (-1 : Int32))) d (dayL d H U res dem kin low hig pri sta ups dow onn ord flo sro sco) := isV_ov dj_d_l (hw_d)
  refine r_iconst X (0 : Int32) dX3_decide_11 (by decide) ?_
  refine r_istore_n [(0, .ref lb), (1, .ref d), (2, .int (nI u)), (3, .int (0 : Int32))] X dX3_decide_12 rfl (by decide) rfl ?_
  refine loop_up (P := fun k5 => SW Z 13 [(0, .ref lb), (1, .ref d), (2, .int (nI u)), (3, .int (nI k5))] [] (ov h lb (lonL lb lp lg q1 ((f_Lone_decide_L13 q1 H kin ups dow u ls (-1 : Int32) k5).1) ((f_Lone_decide_L13 q1 H kin ups dow u ls (-1 : Int32) k5).2)))) ((2 ^ H - 1) + 1) ?_ ?_ 0 (Nat.zero_le _)
  rotate_left
  · intro k5 hk5 ih
    have hv_l : isV (ov h lb (lonL lb lp lg q1 ((f_Lone_decide_L13 q1 H kin ups dow u ls (-1 : Int32) k5).1) ((f_Lone_decide_L13 q1 H kin ups dow u ls (-1 : Int32) k5).2))) lb (lonL lb lp lg q1 ((f_Lone_decide_L13 q1 H kin ups dow u ls (-1 : Int32) k5).1) ((f_Lone_decide_L13 q1 H kin ups dow u ls (-1 : Int32) k5).2)) := ov_isV
    have hv_d : isV (ov h lb (lonL lb lp lg q1 ((f_Lone_decide_L13 q1 H kin ups dow u ls (-1 : Int32) k5).1) ((f_Lone_decide_L13 q1 H kin ups dow u ls (-1 : Int32) k5).2))) d (dayL d H U res dem kin low hig pri sta ups dow onn ord flo sro sco) := isV_ov dj_d_l (hw_d)
    refine r_iload_n X 3 dX3_decide_13 rfl ?_
    refine r_aload_n X 1 dX3_decide_14 rfl ?_
    refine cl_X3_29 X (by decide) dX3_decide_15 (Nat.le_of_ble_eq_true rfl) (hv_d 0 _ rfl) (c_Day_allHoursN hv_d (by first | assumption | omega)) ?_
    refine r_icmp_gt X 72 dX3_decide_18 rfl (fun z => absurd z (nI_nlt (a := 2 ^ H - 1) (b := k5) (by omega) (by omega))) (fun _ => ?_)
    refine r_aload_n X 0 dX3_decide_21 rfl ?_
    refine gf_X3_25 X dX3_decide_22 (hv_l 0 _ rfl) rfl ?_
    refine m_join (P := SW Z 66 [(0, .ref lb), (1, .ref d), (2, .int (nI u)), (3, .int (nI k5))] [] (ov h lb (lonL lb lp lg q1 (if ((f_Lone_decide_L13 q1 H kin ups dow u ls (-1 : Int32) k5).2) < (0 : Int32) then (if (f_Day_keeps H kin ups dow u (nI k5)) = (0 : Int32) then (f_Lone_decide_L13 q1 H kin ups dow u ls (-1 : Int32) k5).1 else q1 k5) else (if (q1 k5) < ((f_Lone_decide_L13 q1 H kin ups dow u ls (-1 : Int32) k5).1) then (if (f_Day_keeps H kin ups dow u (nI k5)) = (0 : Int32) then (f_Lone_decide_L13 q1 H kin ups dow u ls (-1 : Int32) k5).1 else q1 k5) else (f_Lone_decide_L13 q1 H kin ups dow u ls (-1 : Int32) k5).1)) (if ((f_Lone_decide_L13 q1 H kin ups dow u ls (-1 : Int32) k5).2) < (0 : Int32) then (if (f_Day_keeps H kin ups dow u (nI k5)) = (0 : Int32) then (f_Lone_decide_L13 q1 H kin ups dow u ls (-1 : Int32) k5).2 else nI k5) else (if (q1 k5) < ((f_Lone_decide_L13 q1 H kin ups dow u ls (-1 : Int32) k5).1) then (if (f_Day_keeps H kin ups dow u (nI k5)) = (0 : Int32) then (f_Lone_decide_L13 q1 H kin ups dow u ls (-1 : Int32) k5).2 else nI k5) else (f_Lone_decide_L13 q1 H kin ups dow u ls (-1 : Int32) k5).2))))) (fun K => ?_) ?_
    · refine r_if_lt X 42 dX3_decide_25 rfl (fun c6 => ?_) (fun c6 => ?_)
      · skip
        refine r_aload_n X 1 dX3_decide_42 rfl ?_
        refine r_iload_n X 2 dX3_decide_43 rfl ?_
        refine r_iload_n X 3 dX3_decide_44 rfl ?_
        refine cl_X3_39 X (by decide) dX3_decide_45 (Nat.le_of_ble_eq_true rfl) (hv_d 0 _ rfl) (c_Day_keeps hv_d (by first | assumption | omega) (by first | assumption | omega)) ?_
        refine m_join (P := SW Z 66 [(0, .ref lb), (1, .ref d), (2, .int (nI u)), (3, .int (nI k5))] [] (ov h lb (lonL lb lp lg q1 (if (f_Day_keeps H kin ups dow u (nI k5)) = (0 : Int32) then (f_Lone_decide_L13 q1 H kin ups dow u ls (-1 : Int32) k5).1 else q1 k5) (if (f_Day_keeps H kin ups dow u (nI k5)) = (0 : Int32) then (f_Lone_decide_L13 q1 H kin ups dow u ls (-1 : Int32) k5).2 else nI k5)))) (fun K => ?_) ?_
        · refine r_if_eq X 66 dX3_decide_48 rfl (fun c7 => ?_) (fun c7 => ?_)
          · skip
            try simp only [if_pos c7] at K ⊢
            exact K
          · skip
            refine r_aload_n X 0 dX3_decide_51 rfl ?_
            refine r_iload_n X 3 dX3_decide_52 rfl ?_
            refine pf_X3_25 X dX3_decide_53 (hv_l 0 _ rfl) (Nat.le_of_ble_eq_true rfl) ?_
            refine SW.heq (h2 := (ov h lb (lonL lb lp lg q1 ((f_Lone_decide_L13 q1 H kin ups dow u ls (-1 : Int32) k5).1) (nI k5)))) (ov_up 0 (Nat.le_of_ble_eq_true rfl) rfl) ?_
            have hv_l : isV (ov h lb (lonL lb lp lg q1 ((f_Lone_decide_L13 q1 H kin ups dow u ls (-1 : Int32) k5).1) (nI k5))) lb (lonL lb lp lg q1 ((f_Lone_decide_L13 q1 H kin ups dow u ls (-1 : Int32) k5).1) (nI k5)) := ov_isV
            have hv_d : isV (ov h lb (lonL lb lp lg q1 ((f_Lone_decide_L13 q1 H kin ups dow u ls (-1 : Int32) k5).1) (nI k5))) d (dayL d H U res dem kin low hig pri sta ups dow onn ord flo sro sco) := isV_ov dj_d_l (hw_d)
            refine r_aload_n X 0 dX3_decide_56 rfl ?_
            refine r_aload_n X 0 dX3_decide_57 rfl ?_
            refine gf_X3_18 X dX3_decide_58 (hv_l 0 _ rfl) rfl ?_
            refine r_iload_n X 3 dX3_decide_61 rfl ?_
            refine r_laldn X (k0 := k5) dX3_decide_62 (hv_l 3 _ rfl) (by omega) (by decide) ?_
            refine pf_X3_35 X dX3_decide_63 (hv_l 0 _ rfl) (Nat.le_of_ble_eq_true rfl) ?_
            refine SW.heq (h2 := (ov h lb (lonL lb lp lg q1 (q1 k5) (nI k5)))) (ov_up 0 (Nat.le_of_ble_eq_true rfl) rfl) ?_
            have hv_l : isV (ov h lb (lonL lb lp lg q1 (q1 k5) (nI k5))) lb (lonL lb lp lg q1 (q1 k5) (nI k5)) := ov_isV
            have hv_d : isV (ov h lb (lonL lb lp lg q1 (q1 k5) (nI k5))) d (dayL d H U res dem kin low hig pri sta ups dow onn ord flo sro sco) := isV_ov dj_d_l (hw_d)
            try simp only [if_neg c7] at K ⊢
            exact K
        have hv_l : isV (ov h lb (lonL lb lp lg q1 (if (f_Day_keeps H kin ups dow u (nI k5)) = (0 : Int32) then (f_Lone_decide_L13 q1 H kin ups dow u ls (-1 : Int32) k5).1 else q1 k5) (if (f_Day_keeps H kin ups dow u (nI k5)) = (0 : Int32) then (f_Lone_decide_L13 q1 H kin ups dow u ls (-1 : Int32) k5).2 else nI k5))) lb (lonL lb lp lg q1 (if (f_Day_keeps H kin ups dow u (nI k5)) = (0 : Int32) then (f_Lone_decide_L13 q1 H kin ups dow u ls (-1 : Int32) k5).1 else q1 k5) (if (f_Day_keeps H kin ups dow u (nI k5)) = (0 : Int32) then (f_Lone_decide_L13 q1 H kin ups dow u ls (-1 : Int32) k5).2 else nI k5)) := ov_isV
        have hv_d : isV (ov h lb (lonL lb lp lg q1 (if (f_Day_keeps H kin ups dow u (nI k5)) = (0 : Int32) then (f_Lone_decide_L13 q1 H kin ups dow u ls (-1 : Int32) k5).1 else q1 k5) (if (f_Day_keeps H kin ups dow u (nI k5)) = (0 : Int32) then (f_Lone_decide_L13 q1 H kin ups dow u ls (-1 : Int32) k5).2 else nI k5))) d (dayL d H U res dem kin low hig pri sta ups dow onn ord flo sro sco) := isV_ov dj_d_l (hw_d)
        try simp only [if_pos c6] at K ⊢
        exact K
      · skip
        refine r_aload_n X 0 dX3_decide_28 rfl ?_
        refine gf_X3_18 X dX3_decide_29 (hv_l 0 _ rfl) rfl ?_
        refine r_iload_n X 3 dX3_decide_32 rfl ?_
        refine r_laldn X (k0 := k5) dX3_decide_33 (hv_l 3 _ rfl) (by omega) (by decide) ?_
        refine r_aload_n X 0 dX3_decide_34 rfl ?_
        refine gf_X3_35 X dX3_decide_35 (hv_l 0 _ rfl) rfl ?_
        refine m_join (P := SW Z 66 [(0, .ref lb), (1, .ref d), (2, .int (nI u)), (3, .int (nI k5))] [] (ov h lb (lonL lb lp lg q1 (if (q1 k5) < ((f_Lone_decide_L13 q1 H kin ups dow u ls (-1 : Int32) k5).1) then (if (f_Day_keeps H kin ups dow u (nI k5)) = (0 : Int32) then (f_Lone_decide_L13 q1 H kin ups dow u ls (-1 : Int32) k5).1 else q1 k5) else (f_Lone_decide_L13 q1 H kin ups dow u ls (-1 : Int32) k5).1) (if (q1 k5) < ((f_Lone_decide_L13 q1 H kin ups dow u ls (-1 : Int32) k5).1) then (if (f_Day_keeps H kin ups dow u (nI k5)) = (0 : Int32) then (f_Lone_decide_L13 q1 H kin ups dow u ls (-1 : Int32) k5).2 else nI k5) else (f_Lone_decide_L13 q1 H kin ups dow u ls (-1 : Int32) k5).2)))) (fun K => ?_) ?_
        · refine r_lcmp_ge X 66 dX3_decide_38 dX3_decide_39 rfl (fun c8 => ?_) (fun c8 => ?_)
          · skip
            try simp only [if_neg c8] at K ⊢
            exact K
          · skip
            refine r_aload_n X 1 dX3_decide_42 rfl ?_
            refine r_iload_n X 2 dX3_decide_43 rfl ?_
            refine r_iload_n X 3 dX3_decide_44 rfl ?_
            refine cl_X3_39 X (by decide) dX3_decide_45 (Nat.le_of_ble_eq_true rfl) (hv_d 0 _ rfl) (c_Day_keeps hv_d (by first | assumption | omega) (by first | assumption | omega)) ?_
            refine m_join (P := SW Z 66 [(0, .ref lb), (1, .ref d), (2, .int (nI u)), (3, .int (nI k5))] [] (ov h lb (lonL lb lp lg q1 (if (f_Day_keeps H kin ups dow u (nI k5)) = (0 : Int32) then (f_Lone_decide_L13 q1 H kin ups dow u ls (-1 : Int32) k5).1 else q1 k5) (if (f_Day_keeps H kin ups dow u (nI k5)) = (0 : Int32) then (f_Lone_decide_L13 q1 H kin ups dow u ls (-1 : Int32) k5).2 else nI k5)))) (fun K => ?_) ?_
            · refine r_if_eq X 66 dX3_decide_48 rfl (fun c9 => ?_) (fun c9 => ?_)
              · skip
                try simp only [if_pos c9] at K ⊢
                exact K
              · skip
                refine r_aload_n X 0 dX3_decide_51 rfl ?_
                refine r_iload_n X 3 dX3_decide_52 rfl ?_
                refine pf_X3_25 X dX3_decide_53 (hv_l 0 _ rfl) (Nat.le_of_ble_eq_true rfl) ?_
                refine SW.heq (h2 := (ov h lb (lonL lb lp lg q1 ((f_Lone_decide_L13 q1 H kin ups dow u ls (-1 : Int32) k5).1) (nI k5)))) (ov_up 0 (Nat.le_of_ble_eq_true rfl) rfl) ?_
                have hv_l : isV (ov h lb (lonL lb lp lg q1 ((f_Lone_decide_L13 q1 H kin ups dow u ls (-1 : Int32) k5).1) (nI k5))) lb (lonL lb lp lg q1 ((f_Lone_decide_L13 q1 H kin ups dow u ls (-1 : Int32) k5).1) (nI k5)) := ov_isV
                have hv_d : isV (ov h lb (lonL lb lp lg q1 ((f_Lone_decide_L13 q1 H kin ups dow u ls (-1 : Int32) k5).1) (nI k5))) d (dayL d H U res dem kin low hig pri sta ups dow onn ord flo sro sco) := isV_ov dj_d_l (hw_d)
                refine r_aload_n X 0 dX3_decide_56 rfl ?_
                refine r_aload_n X 0 dX3_decide_57 rfl ?_
                refine gf_X3_18 X dX3_decide_58 (hv_l 0 _ rfl) rfl ?_
                refine r_iload_n X 3 dX3_decide_61 rfl ?_
                refine r_laldn X (k0 := k5) dX3_decide_62 (hv_l 3 _ rfl) (by omega) (by decide) ?_
                refine pf_X3_35 X dX3_decide_63 (hv_l 0 _ rfl) (Nat.le_of_ble_eq_true rfl) ?_
                refine SW.heq (h2 := (ov h lb (lonL lb lp lg q1 (q1 k5) (nI k5)))) (ov_up 0 (Nat.le_of_ble_eq_true rfl) rfl) ?_
                have hv_l : isV (ov h lb (lonL lb lp lg q1 (q1 k5) (nI k5))) lb (lonL lb lp lg q1 (q1 k5) (nI k5)) := ov_isV
                have hv_d : isV (ov h lb (lonL lb lp lg q1 (q1 k5) (nI k5))) d (dayL d H U res dem kin low hig pri sta ups dow onn ord flo sro sco) := isV_ov dj_d_l (hw_d)
                try simp only [if_neg c9] at K ⊢
                exact K
            have hv_l : isV (ov h lb (lonL lb lp lg q1 (if (f_Day_keeps H kin ups dow u (nI k5)) = (0 : Int32) then (f_Lone_decide_L13 q1 H kin ups dow u ls (-1 : Int32) k5).1 else q1 k5) (if (f_Day_keeps H kin ups dow u (nI k5)) = (0 : Int32) then (f_Lone_decide_L13 q1 H kin ups dow u ls (-1 : Int32) k5).2 else nI k5))) lb (lonL lb lp lg q1 (if (f_Day_keeps H kin ups dow u (nI k5)) = (0 : Int32) then (f_Lone_decide_L13 q1 H kin ups dow u ls (-1 : Int32) k5).1 else q1 k5) (if (f_Day_keeps H kin ups dow u (nI k5)) = (0 : Int32) then (f_Lone_decide_L13 q1 H kin ups dow u ls (-1 : Int32) k5).2 else nI k5)) := ov_isV
            have hv_d : isV (ov h lb (lonL lb lp lg q1 (if (f_Day_keeps H kin ups dow u (nI k5)) = (0 : Int32) then (f_Lone_decide_L13 q1 H kin ups dow u ls (-1 : Int32) k5).1 else q1 k5) (if (f_Day_keeps H kin ups dow u (nI k5)) = (0 : Int32) then (f_Lone_decide_L13 q1 H kin ups dow u ls (-1 : Int32) k5).2 else nI k5))) d (dayL d H U res dem kin low hig pri sta ups dow onn ord flo sro sco) := isV_ov dj_d_l (hw_d)
            try simp only [if_pos c8] at K ⊢
            exact K
        have hv_l : isV (ov h lb (lonL lb lp lg q1 (if (q1 k5) < ((f_Lone_decide_L13 q1 H kin ups dow u ls (-1 : Int32) k5).1) then (if (f_Day_keeps H kin ups dow u (nI k5)) = (0 : Int32) then (f_Lone_decide_L13 q1 H kin ups dow u ls (-1 : Int32) k5).1 else q1 k5) else (f_Lone_decide_L13 q1 H kin ups dow u ls (-1 : Int32) k5).1) (if (q1 k5) < ((f_Lone_decide_L13 q1 H kin ups dow u ls (-1 : Int32) k5).1) then (if (f_Day_keeps H kin ups dow u (nI k5)) = (0 : Int32) then (f_Lone_decide_L13 q1 H kin ups dow u ls (-1 : Int32) k5).2 else nI k5) else (f_Lone_decide_L13 q1 H kin ups dow u ls (-1 : Int32) k5).2))) lb (lonL lb lp lg q1 (if (q1 k5) < ((f_Lone_decide_L13 q1 H kin ups dow u ls (-1 : Int32) k5).1) then (if (f_Day_keeps H kin ups dow u (nI k5)) = (0 : Int32) then (f_Lone_decide_L13 q1 H kin ups dow u ls (-1 : Int32) k5).1 else q1 k5) else (f_Lone_decide_L13 q1 H kin ups dow u ls (-1 : Int32) k5).1) (if (q1 k5) < ((f_Lone_decide_L13 q1 H kin ups dow u ls (-1 : Int32) k5).1) then (if (f_Day_keeps H kin ups dow u (nI k5)) = (0 : Int32) then (f_Lone_decide_L13 q1 H kin ups dow u ls (-1 : Int32) k5).2 else nI k5) else (f_Lone_decide_L13 q1 H kin ups dow u ls (-1 : Int32) k5).2)) := ov_isV
        have hv_d : isV (ov h lb (lonL lb lp lg q1 (if (q1 k5) < ((f_Lone_decide_L13 q1 H kin ups dow u ls (-1 : Int32) k5).1) then (if (f_Day_keeps H kin ups dow u (nI k5)) = (0 : Int32) then (f_Lone_decide_L13 q1 H kin ups dow u ls (-1 : Int32) k5).1 else q1 k5) else (f_Lone_decide_L13 q1 H kin ups dow u ls (-1 : Int32) k5).1) (if (q1 k5) < ((f_Lone_decide_L13 q1 H kin ups dow u ls (-1 : Int32) k5).1) then (if (f_Day_keeps H kin ups dow u (nI k5)) = (0 : Int32) then (f_Lone_decide_L13 q1 H kin ups dow u ls (-1 : Int32) k5).2 else nI k5) else (f_Lone_decide_L13 q1 H kin ups dow u ls (-1 : Int32) k5).2))) d (dayL d H U res dem kin low hig pri sta ups dow onn ord flo sro sco) := isV_ov dj_d_l (hw_d)
        try simp only [if_neg c6] at K ⊢
        exact K
    have hv_l : isV (ov h lb (lonL lb lp lg q1 (if ((f_Lone_decide_L13 q1 H kin ups dow u ls (-1 : Int32) k5).2) < (0 : Int32) then (if (f_Day_keeps H kin ups dow u (nI k5)) = (0 : Int32) then (f_Lone_decide_L13 q1 H kin ups dow u ls (-1 : Int32) k5).1 else q1 k5) else (if (q1 k5) < ((f_Lone_decide_L13 q1 H kin ups dow u ls (-1 : Int32) k5).1) then (if (f_Day_keeps H kin ups dow u (nI k5)) = (0 : Int32) then (f_Lone_decide_L13 q1 H kin ups dow u ls (-1 : Int32) k5).1 else q1 k5) else (f_Lone_decide_L13 q1 H kin ups dow u ls (-1 : Int32) k5).1)) (if ((f_Lone_decide_L13 q1 H kin ups dow u ls (-1 : Int32) k5).2) < (0 : Int32) then (if (f_Day_keeps H kin ups dow u (nI k5)) = (0 : Int32) then (f_Lone_decide_L13 q1 H kin ups dow u ls (-1 : Int32) k5).2 else nI k5) else (if (q1 k5) < ((f_Lone_decide_L13 q1 H kin ups dow u ls (-1 : Int32) k5).1) then (if (f_Day_keeps H kin ups dow u (nI k5)) = (0 : Int32) then (f_Lone_decide_L13 q1 H kin ups dow u ls (-1 : Int32) k5).2 else nI k5) else (f_Lone_decide_L13 q1 H kin ups dow u ls (-1 : Int32) k5).2)))) lb (lonL lb lp lg q1 (if ((f_Lone_decide_L13 q1 H kin ups dow u ls (-1 : Int32) k5).2) < (0 : Int32) then (if (f_Day_keeps H kin ups dow u (nI k5)) = (0 : Int32) then (f_Lone_decide_L13 q1 H kin ups dow u ls (-1 : Int32) k5).1 else q1 k5) else (if (q1 k5) < ((f_Lone_decide_L13 q1 H kin ups dow u ls (-1 : Int32) k5).1) then (if (f_Day_keeps H kin ups dow u (nI k5)) = (0 : Int32) then (f_Lone_decide_L13 q1 H kin ups dow u ls (-1 : Int32) k5).1 else q1 k5) else (f_Lone_decide_L13 q1 H kin ups dow u ls (-1 : Int32) k5).1)) (if ((f_Lone_decide_L13 q1 H kin ups dow u ls (-1 : Int32) k5).2) < (0 : Int32) then (if (f_Day_keeps H kin ups dow u (nI k5)) = (0 : Int32) then (f_Lone_decide_L13 q1 H kin ups dow u ls (-1 : Int32) k5).2 else nI k5) else (if (q1 k5) < ((f_Lone_decide_L13 q1 H kin ups dow u ls (-1 : Int32) k5).1) then (if (f_Day_keeps H kin ups dow u (nI k5)) = (0 : Int32) then (f_Lone_decide_L13 q1 H kin ups dow u ls (-1 : Int32) k5).2 else nI k5) else (f_Lone_decide_L13 q1 H kin ups dow u ls (-1 : Int32) k5).2))) := ov_isV
    have hv_d : isV (ov h lb (lonL lb lp lg q1 (if ((f_Lone_decide_L13 q1 H kin ups dow u ls (-1 : Int32) k5).2) < (0 : Int32) then (if (f_Day_keeps H kin ups dow u (nI k5)) = (0 : Int32) then (f_Lone_decide_L13 q1 H kin ups dow u ls (-1 : Int32) k5).1 else q1 k5) else (if (q1 k5) < ((f_Lone_decide_L13 q1 H kin ups dow u ls (-1 : Int32) k5).1) then (if (f_Day_keeps H kin ups dow u (nI k5)) = (0 : Int32) then (f_Lone_decide_L13 q1 H kin ups dow u ls (-1 : Int32) k5).1 else q1 k5) else (f_Lone_decide_L13 q1 H kin ups dow u ls (-1 : Int32) k5).1)) (if ((f_Lone_decide_L13 q1 H kin ups dow u ls (-1 : Int32) k5).2) < (0 : Int32) then (if (f_Day_keeps H kin ups dow u (nI k5)) = (0 : Int32) then (f_Lone_decide_L13 q1 H kin ups dow u ls (-1 : Int32) k5).2 else nI k5) else (if (q1 k5) < ((f_Lone_decide_L13 q1 H kin ups dow u ls (-1 : Int32) k5).1) then (if (f_Day_keeps H kin ups dow u (nI k5)) = (0 : Int32) then (f_Lone_decide_L13 q1 H kin ups dow u ls (-1 : Int32) k5).2 else nI k5) else (f_Lone_decide_L13 q1 H kin ups dow u ls (-1 : Int32) k5).2)))) d (dayL d H U res dem kin low hig pri sta ups dow onn ord flo sro sco) := isV_ov dj_d_l (hw_d)
    refine r_iinc [(0, .ref lb), (1, .ref d), (2, .int (nI u)), (3, .int (nI (k5 + 1)))] X (nI (k5 + 1)) 3 dX3_decide_66 rfl (nI_succ _).symm (by decide) rfl ?_
    refine r_goto X 13 dX3_decide_69 rfl ?_
    exact ih
  obtain ⟨q2, eq2⟩ : ∃ q, q = f_Lone_decide_L13 q1 H kin ups dow u ls (-1 : Int32) ((2 ^ H - 1) + 1) := ⟨_, rfl⟩
  rw [← eq2]
  rw [← eq2] at hf
  try dsimp only at hf
  have hv_l : isV (ov h lb (lonL lb lp lg q1 q2.1 q2.2)) lb (lonL lb lp lg q1 q2.1 q2.2) := ov_isV
  have hv_d : isV (ov h lb (lonL lb lp lg q1 q2.1 q2.2)) d (dayL d H U res dem kin low hig pri sta ups dow onn ord flo sro sco) := isV_ov dj_d_l (hw_d)
  refine r_iload_n X 3 dX3_decide_13 rfl ?_
  refine r_aload_n X 1 dX3_decide_14 rfl ?_
  refine cl_X3_29 X (by decide) dX3_decide_15 (Nat.le_of_ble_eq_true rfl) (hv_d 0 _ rfl) (c_Day_allHoursN hv_d (by first | assumption | omega)) ?_
  refine r_icmp_gt X 72 dX3_decide_18 rfl (fun _ => ?_) (fun z => absurd (nI_lt (a := 2 ^ H - 1) (b := (2 ^ H - 1) + 1) (by omega) (by omega)) z) 
  try subst hf
  exact r_return X Y dX3_decide_72 rfl rfl

def f_Lone_boundOf_L5s (lp : Nat → Int64) (dem : Nat → Int32) (k5 : Nat) (x2 : Int64) (lg : Nat → Int64) : Int64 × (Nat → Int64) := (x2 + (((dem k5).toInt64) * (lp k5)), vp_updL lg k5 (0 : Int64))
def f_Lone_boundOf_L5 (lp : Nat → Int64) (dem : Nat → Int32) (x2 : Int64) (lg : Nat → Int64) : Nat → Int64 × (Nat → Int64)
  | 0 => (x2, lg)
  | k5 + 1 => f_Lone_boundOf_L5s lp dem k5 ((f_Lone_boundOf_L5 lp dem x2 lg k5).1) ((f_Lone_boundOf_L5 lp dem x2 lg k5).2)
def f_Lone_boundOf_L76s (lp : Nat → Int64) (lo : Int32) (hig : Nat → Int32) (pri : Nat → Int32) (flo : Nat → Int32) (sro : Nat → Int32) (n4 : Nat) (k76 : Nat) (lg : Nat → Int64) : (Nat → Int64) := vp_updL lg k76 ((lg k76) + (f_Lone_givenIn lp lo hig pri flo sro n4 k76))
def f_Lone_boundOf_L76 (lp : Nat → Int64) (lo : Int32) (hig : Nat → Int32) (pri : Nat → Int32) (flo : Nat → Int32) (sro : Nat → Int32) (n4 : Nat) (lg : Nat → Int64) : Nat → (Nat → Int64)
  | 0 => lg
  | k76 + 1 => f_Lone_boundOf_L76s lp lo hig pri flo sro n4 k76 (f_Lone_boundOf_L76 lp lo hig pri flo sro n4 lg k76)
def f_Lone_boundOf_L50s (lp : Nat → Int64) (H : Nat) (kin : Nat → Int32) (hig : Nat → Int32) (pri : Nat → Int32) (ups : Nat → Int32) (dow : Nat → Int32) (flo : Nat → Int32) (sro : Nat → Int32) (sco : Nat → Int32) (k50 : Nat) (x2 : Int64) (lg : Nat → Int64) (lz : Nat → Int64) (ls : Int64) (lo : Int32) : Int64 × (Nat → Int64) × (Nat → Int64) × Int64 × Int32 := ((fun q2 => (x2 + q2.2.1, (f_Lone_boundOf_L76 lp q2.2.2 hig pri flo sro k50 lg H), q2.1, q2.2.1, q2.2.2)) (f_Lone_decide lp lz ls H kin hig pri ups dow flo sro sco k50))
def f_Lone_boundOf_L50 (lp : Nat → Int64) (H : Nat) (kin : Nat → Int32) (hig : Nat → Int32) (pri : Nat → Int32) (ups : Nat → Int32) (dow : Nat → Int32) (flo : Nat → Int32) (sro : Nat → Int32) (sco : Nat → Int32) (x2 : Int64) (lg : Nat → Int64) (lz : Nat → Int64) (ls : Int64) (lo : Int32) : Nat → Int64 × (Nat → Int64) × (Nat → Int64) × Int64 × Int32
  | 0 => (x2, lg, lz, ls, lo)
  | k50 + 1 => f_Lone_boundOf_L50s lp H kin hig pri ups dow flo sro sco k50 ((f_Lone_boundOf_L50 lp H kin hig pri ups dow flo sro sco x2 lg lz ls lo k50).1) ((f_Lone_boundOf_L50 lp H kin hig pri ups dow flo sro sco x2 lg lz ls lo k50).2.1) ((f_Lone_boundOf_L50 lp H kin hig pri ups dow flo sro sco x2 lg lz ls lo k50).2.2.1) ((f_Lone_boundOf_L50 lp H kin hig pri ups dow flo sro sco x2 lg lz ls lo k50).2.2.2.1) ((f_Lone_boundOf_L50 lp H kin hig pri ups dow flo sro sco x2 lg lz ls lo k50).2.2.2.2)
def f_Lone_boundOf (lp : Nat → Int64) (lg : Nat → Int64) (lz : Nat → Int64) (ls : Int64) (lo : Int32) (H : Nat) (U : Nat) (dem : Nat → Int32) (kin : Nat → Int32) (hig : Nat → Int32) (pri : Nat → Int32) (ups : Nat → Int32) (dow : Nat → Int32) (flo : Nat → Int32) (sro : Nat → Int32) (sco : Nat → Int32) : Int64 × (Nat → Int64) × (Nat → Int64) × Int64 × Int32 := ((fun q1 => ((fun q5 => (q5.1, q5.2.1, q5.2.2.1, q5.2.2.2.1, q5.2.2.2.2)) (f_Lone_boundOf_L50 lp H kin hig pri ups dow flo sro sco q1.1 q1.2 lz ls lo U))) (f_Lone_boundOf_L5 lp dem (0 : Int64) lg H))
set_option maxRecDepth 20000 in
set_option maxHeartbeats 4000000 in
theorem c_Lone_boundOf {G : mG} {h : mHp} {d : Nat} {lb : Nat} {lp : Nat → Int64} {lg : Nat → Int64} {lz : Nat → Int64} {ls : Int64} {lo : Int32} {H : Nat} {U : Nat} {res : Int32} {dem : Nat → Int32} {kin : Nat → Int32} {low : Nat → Int32} {hig : Nat → Int32} {pri : Nat → Int32} {sta : Nat → Int32} {ups : Nat → Int32} {dow : Nat → Int32} {onn : Nat → Int32} {ord : Nat → Nat} {flo : Nat → Int32} {sro : Nat → Int32} {sco : Nat → Int32} (hw_d : isV h d (dayL d H U res dem kin low hig pri sta ups dow onn ord flo sro sco)) (dj_d_l : d + 14 ≤ lb ∨ lb + 4 ≤ d) (hU : U ≤ 4) (hH : H ≤ 6) : Ret G 4 mX3_boundOf [.ref lb, .ref d] (ov h lb (lonL lb lp lg lz ls lo)) (some (.long (f_Lone_boundOf lp lg lz ls lo H U dem kin hig pri ups dow flo sro sco).1)) (ov h lb (lonL lb lp (f_Lone_boundOf lp lg lz ls lo H U dem kin hig pri ups dow flo sro sco).2.1 (f_Lone_boundOf lp lg lz ls lo H U dem kin hig pri ups dow flo sro sco).2.2.1 (f_Lone_boundOf lp lg lz ls lo H U dem kin hig pri ups dow flo sro sco).2.2.2.1 (f_Lone_boundOf lp lg lz ls lo H U dem kin hig pri ups dow flo sro sco).2.2.2.2)) := by
  generalize hf : f_Lone_boundOf lp lg lz ls lo H U dem kin hig pri ups dow flo sro sco = R
  unfold f_Lone_boundOf at hf
  refine Ret.of [(0, .ref lb), (1, .ref d)] (by decide) (Nat.le_of_ble_eq_true rfl) rfl ?_
  rintro Z rfl X Y
  have hv_l : isV (ov h lb (lonL lb lp lg lz ls lo)) lb (lonL lb lp lg lz ls lo) := ov_isV
  have hv_d : isV (ov h lb (lonL lb lp lg lz ls lo)) d (dayL d H U res dem kin low hig pri sta ups dow onn ord flo sro sco) := isV_ov dj_d_l (hw_d)
  refine r_lconst X (0 : Int64) dX3_boundOf_0 (by decide) ?_
  refine r_lstore_n [(0, .ref lb), (1, .ref d), (2, .long (0 : Int64))] X dX3_boundOf_1 rfl (by decide) rfl ?_
  refine r_iconst X (0 : Int32) dX3_boundOf_2 (by decide) ?_
  refine r_istore [(0, .ref lb), (1, .ref d), (2, .long (0 : Int64)), (4, .int (0 : Int32))] X dX3_boundOf_3 (by decide) rfl ?_
  refine loop_up (P := fun k1 => SW Z 5 [(0, .ref lb), (1, .ref d), (2, .long ((f_Lone_boundOf_L5 lp dem (0 : Int64) lg k1).1)), (4, .int (nI k1))] [] (ov h lb (lonL lb lp ((f_Lone_boundOf_L5 lp dem (0 : Int64) lg k1).2) lz ls lo))) H ?_ ?_ 0 (Nat.zero_le _)
  rotate_left
  · intro k1 hk1 ih
    have hv_l : isV (ov h lb (lonL lb lp ((f_Lone_boundOf_L5 lp dem (0 : Int64) lg k1).2) lz ls lo)) lb (lonL lb lp ((f_Lone_boundOf_L5 lp dem (0 : Int64) lg k1).2) lz ls lo) := ov_isV
    have hv_d : isV (ov h lb (lonL lb lp ((f_Lone_boundOf_L5 lp dem (0 : Int64) lg k1).2) lz ls lo)) d (dayL d H U res dem kin low hig pri sta ups dow onn ord flo sro sco) := isV_ov dj_d_l (hw_d)
    refine r_iload X 3 dX3_boundOf_5 rfl ?_
    refine r_aload_n X 1 dX3_boundOf_7 rfl ?_
    refine gf_X3_43 X dX3_boundOf_8 (hv_d 0 _ rfl) rfl ?_
    refine r_icmp_ge X 47 dX3_boundOf_11 rfl (fun z => absurd (nI_lt (a := k1) (b := H) (by omega) (by omega)) z) (fun _ => ?_)
    refine r_lload_n X 2 dX3_boundOf_14 rfl ?_
    refine r_aload_n X 1 dX3_boundOf_15 rfl ?_
    refine gf_X3_72 X dX3_boundOf_16 (hv_d 0 _ rfl) rfl ?_
    refine r_iload X 3 dX3_boundOf_19 rfl ?_
    refine r_ialdn X (k0 := k1) dX3_boundOf_21 (hv_d 1 _ rfl) (by omega) (by decide) ?_
    refine r_i2l X dX3_boundOf_22 ?_
    refine r_aload_n X 0 dX3_boundOf_23 rfl ?_
    refine gf_X3_9 X dX3_boundOf_24 (hv_l 0 _ rfl) rfl ?_
    refine r_iload X 3 dX3_boundOf_27 rfl ?_
    refine r_laldn X (k0 := k1) dX3_boundOf_29 (hv_l 1 _ rfl) (by omega) (by decide) ?_
    refine r_lmul X dX3_boundOf_30 ?_
    refine r_ladd X dX3_boundOf_31 ?_
    refine r_lstore_n [(0, .ref lb), (1, .ref d), (2, .long (((f_Lone_boundOf_L5 lp dem (0 : Int64) lg k1).1) + (((dem k1).toInt64) * (lp k1)))), (4, .int (nI k1))] X dX3_boundOf_32 rfl (by decide) rfl ?_
    refine r_aload_n X 0 dX3_boundOf_33 rfl ?_
    refine gf_X3_15 X dX3_boundOf_34 (hv_l 0 _ rfl) rfl ?_
    refine r_iload X 3 dX3_boundOf_37 rfl ?_
    refine r_lconst X (0 : Int64) dX3_boundOf_39 (by decide) ?_
    refine r_lastn X (k0 := k1) dX3_boundOf_40 (hv_l 2 _ rfl) (by omega) (by first | decide | omega) ?_
    refine SW.heq (h2 := (ov h lb (lonL lb lp (vp_updL ((f_Lone_boundOf_L5 lp dem (0 : Int64) lg k1).2) k1 (0 : Int64)) lz ls lo))) (ov_up 2 (Nat.le_of_ble_eq_true rfl) rfl) ?_
    have hv_l : isV (ov h lb (lonL lb lp (vp_updL ((f_Lone_boundOf_L5 lp dem (0 : Int64) lg k1).2) k1 (0 : Int64)) lz ls lo)) lb (lonL lb lp (vp_updL ((f_Lone_boundOf_L5 lp dem (0 : Int64) lg k1).2) k1 (0 : Int64)) lz ls lo) := ov_isV
    have hv_d : isV (ov h lb (lonL lb lp (vp_updL ((f_Lone_boundOf_L5 lp dem (0 : Int64) lg k1).2) k1 (0 : Int64)) lz ls lo)) d (dayL d H U res dem kin low hig pri sta ups dow onn ord flo sro sco) := isV_ov dj_d_l (hw_d)
    refine r_iinc [(0, .ref lb), (1, .ref d), (2, .long (((f_Lone_boundOf_L5 lp dem (0 : Int64) lg k1).1) + (((dem k1).toInt64) * (lp k1)))), (4, .int (nI (k1 + 1)))] X (nI (k1 + 1)) 3 dX3_boundOf_41 rfl (nI_succ _).symm (by decide) rfl ?_
    refine r_goto X 5 dX3_boundOf_44 rfl ?_
    exact ih
  obtain ⟨q1, eq1⟩ : ∃ q, q = f_Lone_boundOf_L5 lp dem (0 : Int64) lg H := ⟨_, rfl⟩
  rw [← eq1]
  rw [← eq1] at hf
  try dsimp only at hf
  have hv_l : isV (ov h lb (lonL lb lp q1.2 lz ls lo)) lb (lonL lb lp q1.2 lz ls lo) := ov_isV
  have hv_d : isV (ov h lb (lonL lb lp q1.2 lz ls lo)) d (dayL d H U res dem kin low hig pri sta ups dow onn ord flo sro sco) := isV_ov dj_d_l (hw_d)
  refine r_iload X 3 dX3_boundOf_5 rfl ?_
  refine r_aload_n X 1 dX3_boundOf_7 rfl ?_
  refine gf_X3_43 X dX3_boundOf_8 (hv_d 0 _ rfl) rfl ?_
  refine r_icmp_ge X 47 dX3_boundOf_11 rfl (fun _ => ?_) (fun z => absurd z (nI_nlt (a := H) (b := H) (by omega) (by omega)))
  refine r_iconst X (0 : Int32) dX3_boundOf_47 (by decide) ?_
  refine r_istore [(0, .ref lb), (1, .ref d), (2, .long q1.1), (4, .int (0 : Int32))] X dX3_boundOf_48 (by decide) rfl ?_
  refine loop_up (P := fun k3 => SW Z 50 [(0, .ref lb), (1, .ref d), (2, .long ((f_Lone_boundOf_L50 lp H kin hig pri ups dow flo sro sco q1.1 q1.2 lz ls lo k3).1)), (4, .int (nI k3))] [] (ov h lb (lonL lb lp ((f_Lone_boundOf_L50 lp H kin hig pri ups dow flo sro sco q1.1 q1.2 lz ls lo k3).2.1) ((f_Lone_boundOf_L50 lp H kin hig pri ups dow flo sro sco q1.1 q1.2 lz ls lo k3).2.2.1) ((f_Lone_boundOf_L50 lp H kin hig pri ups dow flo sro sco q1.1 q1.2 lz ls lo k3).2.2.2.1) ((f_Lone_boundOf_L50 lp H kin hig pri ups dow flo sro sco q1.1 q1.2 lz ls lo k3).2.2.2.2)))) U ?_ ?_ 0 (Nat.zero_le _)
  rotate_left
  · intro k3 hk3 ih
    have hv_l : isV (ov h lb (lonL lb lp ((f_Lone_boundOf_L50 lp H kin hig pri ups dow flo sro sco q1.1 q1.2 lz ls lo k3).2.1) ((f_Lone_boundOf_L50 lp H kin hig pri ups dow flo sro sco q1.1 q1.2 lz ls lo k3).2.2.1) ((f_Lone_boundOf_L50 lp H kin hig pri ups dow flo sro sco q1.1 q1.2 lz ls lo k3).2.2.2.1) ((f_Lone_boundOf_L50 lp H kin hig pri ups dow flo sro sco q1.1 q1.2 lz ls lo k3).2.2.2.2))) lb (lonL lb lp ((f_Lone_boundOf_L50 lp H kin hig pri ups dow flo sro sco q1.1 q1.2 lz ls lo k3).2.1) ((f_Lone_boundOf_L50 lp H kin hig pri ups dow flo sro sco q1.1 q1.2 lz ls lo k3).2.2.1) ((f_Lone_boundOf_L50 lp H kin hig pri ups dow flo sro sco q1.1 q1.2 lz ls lo k3).2.2.2.1) ((f_Lone_boundOf_L50 lp H kin hig pri ups dow flo sro sco q1.1 q1.2 lz ls lo k3).2.2.2.2)) := ov_isV
    have hv_d : isV (ov h lb (lonL lb lp ((f_Lone_boundOf_L50 lp H kin hig pri ups dow flo sro sco q1.1 q1.2 lz ls lo k3).2.1) ((f_Lone_boundOf_L50 lp H kin hig pri ups dow flo sro sco q1.1 q1.2 lz ls lo k3).2.2.1) ((f_Lone_boundOf_L50 lp H kin hig pri ups dow flo sro sco q1.1 q1.2 lz ls lo k3).2.2.2.1) ((f_Lone_boundOf_L50 lp H kin hig pri ups dow flo sro sco q1.1 q1.2 lz ls lo k3).2.2.2.2))) d (dayL d H U res dem kin low hig pri sta ups dow onn ord flo sro sco) := isV_ov dj_d_l (hw_d)
    refine r_iload X 3 dX3_boundOf_50 rfl ?_
    refine r_aload_n X 1 dX3_boundOf_52 rfl ?_
    refine gf_X3_75 X dX3_boundOf_53 (hv_d 0 _ rfl) rfl ?_
    refine r_icmp_ge X 116 dX3_boundOf_56 rfl (fun z => absurd (nI_lt (a := k3) (b := U) (by omega) (by omega)) z) (fun _ => ?_)
    refine r_aload_n X 0 dX3_boundOf_59 rfl ?_
    refine r_aload_n X 1 dX3_boundOf_60 rfl ?_
    refine r_iload X 3 dX3_boundOf_61 rfl ?_
    refine cl_X3_78 X (by decide) dX3_boundOf_63 (Nat.le_of_ble_eq_true rfl) (hv_l 0 _ rfl) (c_Lone_decide hw_d (by first | assumption | omega) (by first | assumption | omega) (by first | assumption | omega)) ?_
    obtain ⟨q3, eq3⟩ : ∃ q, q = f_Lone_decide lp ((f_Lone_boundOf_L50 lp H kin hig pri ups dow flo sro sco q1.1 q1.2 lz ls lo k3).2.2.1) ((f_Lone_boundOf_L50 lp H kin hig pri ups dow flo sro sco q1.1 q1.2 lz ls lo k3).2.2.2.1) H kin hig pri ups dow flo sro sco k3 := ⟨_, rfl⟩
    rw [← eq3]
    have hv_l : isV (ov h lb (lonL lb lp ((f_Lone_boundOf_L50 lp H kin hig pri ups dow flo sro sco q1.1 q1.2 lz ls lo k3).2.1) q3.1 q3.2.1 q3.2.2)) lb (lonL lb lp ((f_Lone_boundOf_L50 lp H kin hig pri ups dow flo sro sco q1.1 q1.2 lz ls lo k3).2.1) q3.1 q3.2.1 q3.2.2) := ov_isV
    have hv_d : isV (ov h lb (lonL lb lp ((f_Lone_boundOf_L50 lp H kin hig pri ups dow flo sro sco q1.1 q1.2 lz ls lo k3).2.1) q3.1 q3.2.1 q3.2.2)) d (dayL d H U res dem kin low hig pri sta ups dow onn ord flo sro sco) := isV_ov dj_d_l (hw_d)
    refine r_lload_n X 2 dX3_boundOf_66 rfl ?_
    refine r_aload_n X 0 dX3_boundOf_67 rfl ?_
    refine gf_X3_35 X dX3_boundOf_68 (hv_l 0 _ rfl) rfl ?_
    refine r_ladd X dX3_boundOf_71 ?_
    refine r_lstore_n [(0, .ref lb), (1, .ref d), (2, .long (((f_Lone_boundOf_L50 lp H kin hig pri ups dow flo sro sco q1.1 q1.2 lz ls lo k3).1) + q3.2.1)), (4, .int (nI k3))] X dX3_boundOf_72 rfl (by decide) rfl ?_
    refine r_iconst X (0 : Int32) dX3_boundOf_73 (by decide) ?_
    refine r_istore [(0, .ref lb), (1, .ref d), (2, .long (((f_Lone_boundOf_L50 lp H kin hig pri ups dow flo sro sco q1.1 q1.2 lz ls lo k3).1) + q3.2.1)), (4, .int (nI k3)), (5, .int (0 : Int32))] X dX3_boundOf_74 (by decide) rfl ?_
    refine loop_up (P := fun k4 => SW Z 76 [(0, .ref lb), (1, .ref d), (2, .long (((f_Lone_boundOf_L50 lp H kin hig pri ups dow flo sro sco q1.1 q1.2 lz ls lo k3).1) + q3.2.1)), (4, .int (nI k3)), (5, .int (nI k4))] [] (ov h lb (lonL lb lp (f_Lone_boundOf_L76 lp q3.2.2 hig pri flo sro k3 ((f_Lone_boundOf_L50 lp H kin hig pri ups dow flo sro sco q1.1 q1.2 lz ls lo k3).2.1) k4) q3.1 q3.2.1 q3.2.2))) H ?_ ?_ 0 (Nat.zero_le _)
    rotate_left
    · intro k4 hk4 ih
      have hv_l : isV (ov h lb (lonL lb lp (f_Lone_boundOf_L76 lp q3.2.2 hig pri flo sro k3 ((f_Lone_boundOf_L50 lp H kin hig pri ups dow flo sro sco q1.1 q1.2 lz ls lo k3).2.1) k4) q3.1 q3.2.1 q3.2.2)) lb (lonL lb lp (f_Lone_boundOf_L76 lp q3.2.2 hig pri flo sro k3 ((f_Lone_boundOf_L50 lp H kin hig pri ups dow flo sro sco q1.1 q1.2 lz ls lo k3).2.1) k4) q3.1 q3.2.1 q3.2.2) := ov_isV
      have hv_d : isV (ov h lb (lonL lb lp (f_Lone_boundOf_L76 lp q3.2.2 hig pri flo sro k3 ((f_Lone_boundOf_L50 lp H kin hig pri ups dow flo sro sco q1.1 q1.2 lz ls lo k3).2.1) k4) q3.1 q3.2.1 q3.2.2)) d (dayL d H U res dem kin low hig pri sta ups dow onn ord flo sro sco) := isV_ov dj_d_l (hw_d)
      refine r_iload X 4 dX3_boundOf_76 rfl ?_
      refine r_aload_n X 1 dX3_boundOf_78 rfl ?_
      refine gf_X3_43 X dX3_boundOf_79 (hv_d 0 _ rfl) rfl ?_
      refine r_icmp_ge X 110 dX3_boundOf_82 rfl (fun z => absurd (nI_lt (a := k4) (b := H) (by omega) (by omega)) z) (fun _ => ?_)
      refine r_aload_n X 0 dX3_boundOf_85 rfl ?_
      refine gf_X3_15 X dX3_boundOf_86 (hv_l 0 _ rfl) rfl ?_
      refine r_iload X 4 dX3_boundOf_89 rfl ?_
      refine r_dup2 X dX3_boundOf_91 rfl rfl ?_
      refine r_laldn X (k0 := k4) dX3_boundOf_92 (hv_l 2 _ rfl) (by omega) (by decide) ?_
      refine r_aload_n X 0 dX3_boundOf_93 rfl ?_
      refine r_aload_n X 1 dX3_boundOf_94 rfl ?_
      refine r_iload X 3 dX3_boundOf_95 rfl ?_
      refine r_iload X 4 dX3_boundOf_97 rfl ?_
      refine cl_X3_81 X (by decide) dX3_boundOf_99 (Nat.le_of_ble_eq_true rfl) (hv_l 0 _ rfl) (c_Lone_givenIn hv_l hv_d (by first | assumption | omega) (by first | assumption | omega)) ?_
      refine r_ladd X dX3_boundOf_102 ?_
      refine r_lastn X (k0 := k4) dX3_boundOf_103 (hv_l 2 _ rfl) (by omega) (by first | decide | omega) ?_
      refine SW.heq (h2 := (ov h lb (lonL lb lp (vp_updL (f_Lone_boundOf_L76 lp q3.2.2 hig pri flo sro k3 ((f_Lone_boundOf_L50 lp H kin hig pri ups dow flo sro sco q1.1 q1.2 lz ls lo k3).2.1) k4) k4 (((f_Lone_boundOf_L76 lp q3.2.2 hig pri flo sro k3 ((f_Lone_boundOf_L50 lp H kin hig pri ups dow flo sro sco q1.1 q1.2 lz ls lo k3).2.1) k4) k4) + (f_Lone_givenIn lp q3.2.2 hig pri flo sro k3 k4))) q3.1 q3.2.1 q3.2.2))) (ov_up 2 (Nat.le_of_ble_eq_true rfl) rfl) ?_
      have hv_l : isV (ov h lb (lonL lb lp (vp_updL (f_Lone_boundOf_L76 lp q3.2.2 hig pri flo sro k3 ((f_Lone_boundOf_L50 lp H kin hig pri ups dow flo sro sco q1.1 q1.2 lz ls lo k3).2.1) k4) k4 (((f_Lone_boundOf_L76 lp q3.2.2 hig pri flo sro k3 ((f_Lone_boundOf_L50 lp H kin hig pri ups dow flo sro sco q1.1 q1.2 lz ls lo k3).2.1) k4) k4) + (f_Lone_givenIn lp q3.2.2 hig pri flo sro k3 k4))) q3.1 q3.2.1 q3.2.2)) lb (lonL lb lp (vp_updL (f_Lone_boundOf_L76 lp q3.2.2 hig pri flo sro k3 ((f_Lone_boundOf_L50 lp H kin hig pri ups dow flo sro sco q1.1 q1.2 lz ls lo k3).2.1) k4) k4 (((f_Lone_boundOf_L76 lp q3.2.2 hig pri flo sro k3 ((f_Lone_boundOf_L50 lp H kin hig pri ups dow flo sro sco q1.1 q1.2 lz ls lo k3).2.1) k4) k4) + (f_Lone_givenIn lp q3.2.2 hig pri flo sro k3 k4))) q3.1 q3.2.1 q3.2.2) := ov_isV
      have hv_d : isV (ov h lb (lonL lb lp (vp_updL (f_Lone_boundOf_L76 lp q3.2.2 hig pri flo sro k3 ((f_Lone_boundOf_L50 lp H kin hig pri ups dow flo sro sco q1.1 q1.2 lz ls lo k3).2.1) k4) k4 (((f_Lone_boundOf_L76 lp q3.2.2 hig pri flo sro k3 ((f_Lone_boundOf_L50 lp H kin hig pri ups dow flo sro sco q1.1 q1.2 lz ls lo k3).2.1) k4) k4) + (f_Lone_givenIn lp q3.2.2 hig pri flo sro k3 k4))) q3.1 q3.2.1 q3.2.2)) d (dayL d H U res dem kin low hig pri sta ups dow onn ord flo sro sco) := isV_ov dj_d_l (hw_d)
      refine r_iinc [(0, .ref lb), (1, .ref d), (2, .long (((f_Lone_boundOf_L50 lp H kin hig pri ups dow flo sro sco q1.1 q1.2 lz ls lo k3).1) + q3.2.1)), (4, .int (nI k3)), (5, .int (nI (k4 + 1)))] X (nI (k4 + 1)) 4 dX3_boundOf_104 rfl (nI_succ _).symm (by decide) rfl ?_
      refine r_goto X 76 dX3_boundOf_107 rfl ?_
      exact ih
    obtain ⟨q4, eq4⟩ : ∃ q, q = f_Lone_boundOf_L76 lp q3.2.2 hig pri flo sro k3 ((f_Lone_boundOf_L50 lp H kin hig pri ups dow flo sro sco q1.1 q1.2 lz ls lo k3).2.1) H := ⟨_, rfl⟩
    rw [← eq4]
    have hv_l : isV (ov h lb (lonL lb lp q4 q3.1 q3.2.1 q3.2.2)) lb (lonL lb lp q4 q3.1 q3.2.1 q3.2.2) := ov_isV
    have hv_d : isV (ov h lb (lonL lb lp q4 q3.1 q3.2.1 q3.2.2)) d (dayL d H U res dem kin low hig pri sta ups dow onn ord flo sro sco) := isV_ov dj_d_l (hw_d)
    refine r_iload X 4 dX3_boundOf_76 rfl ?_
    refine r_aload_n X 1 dX3_boundOf_78 rfl ?_
    refine gf_X3_43 X dX3_boundOf_79 (hv_d 0 _ rfl) rfl ?_
    refine r_icmp_ge X 110 dX3_boundOf_82 rfl (fun _ => ?_) (fun z => absurd z (nI_nlt (a := H) (b := H) (by omega) (by omega)))
    refine r_iinc [(0, .ref lb), (1, .ref d), (2, .long (((f_Lone_boundOf_L50 lp H kin hig pri ups dow flo sro sco q1.1 q1.2 lz ls lo k3).1) + q3.2.1)), (4, .int (nI (k3 + 1))), (5, .int (nI H))] X (nI (k3 + 1)) 3 dX3_boundOf_110 rfl (nI_succ _).symm (by decide) rfl ?_
    refine r_goto X 50 dX3_boundOf_113 rfl ?_
    refine SW.pick [0, 1, 2, 3] [(0, .ref lb), (1, .ref d), (2, .long (((f_Lone_boundOf_L50 lp H kin hig pri ups dow flo sro sco q1.1 q1.2 lz ls lo k3).1) + q3.2.1)), (4, .int (nI (k3 + 1)))] rfl ?_
    subst eq4
    subst eq3
    exact ih
  obtain ⟨q5, eq5⟩ : ∃ q, q = f_Lone_boundOf_L50 lp H kin hig pri ups dow flo sro sco q1.1 q1.2 lz ls lo U := ⟨_, rfl⟩
  rw [← eq5]
  rw [← eq5] at hf
  try dsimp only at hf
  have hv_l : isV (ov h lb (lonL lb lp q5.2.1 q5.2.2.1 q5.2.2.2.1 q5.2.2.2.2)) lb (lonL lb lp q5.2.1 q5.2.2.1 q5.2.2.2.1 q5.2.2.2.2) := ov_isV
  have hv_d : isV (ov h lb (lonL lb lp q5.2.1 q5.2.2.1 q5.2.2.2.1 q5.2.2.2.2)) d (dayL d H U res dem kin low hig pri sta ups dow onn ord flo sro sco) := isV_ov dj_d_l (hw_d)
  refine r_iload X 3 dX3_boundOf_50 rfl ?_
  refine r_aload_n X 1 dX3_boundOf_52 rfl ?_
  refine gf_X3_75 X dX3_boundOf_53 (hv_d 0 _ rfl) rfl ?_
  refine r_icmp_ge X 116 dX3_boundOf_56 rfl (fun _ => ?_) (fun z => absurd z (nI_nlt (a := U) (b := U) (by omega) (by omega)))
  refine r_lload_n X 2 dX3_boundOf_116 rfl ?_
  try subst hf
  exact r_lreturn X Y dX3_boundOf_117 rfl rfl

def f_Lone_movePrices_L26s (lg : Nat → Int64) (dem : Nat → Int32) (k26 : Nat) (lp : Nat → Int64) : (Nat → Int64) := vp_updL lp k26 (f_Math_maxJ (0 : Int64) (((lp k26) + ((dem k26).toInt64)) - (lg k26)))
def f_Lone_movePrices_L26 (lg : Nat → Int64) (dem : Nat → Int32) (lp : Nat → Int64) : Nat → (Nat → Int64)
  | 0 => lp
  | k26 + 1 => f_Lone_movePrices_L26s lg dem k26 (f_Lone_movePrices_L26 lg dem lp k26)
def f_Lone_movePrices_L17s (H : Nat) (U : Nat) (dem : Nat → Int32) (kin : Nat → Int32) (hig : Nat → Int32) (pri : Nat → Int32) (ups : Nat → Int32) (dow : Nat → Int32) (flo : Nat → Int32) (sro : Nat → Int32) (sco : Nat → Int32) (k17 : Nat) (x3 : Int64) (lp : Nat → Int64) (lg : Nat → Int64) (lz : Nat → Int64) (ls : Int64) (lo : Int32) : Int64 × (Nat → Int64) × (Nat → Int64) × (Nat → Int64) × Int64 × Int32 := ((fun q2 => (f_Math_maxJ x3 q2.1, (f_Lone_movePrices_L26 lg dem lp H), q2.2.1, q2.2.2.1, q2.2.2.2.1, q2.2.2.2.2)) (f_Lone_boundOf (f_Lone_movePrices_L26 lg dem lp H) lg lz ls lo H U dem kin hig pri ups dow flo sro sco))
def f_Lone_movePrices_L17 (H : Nat) (U : Nat) (dem : Nat → Int32) (kin : Nat → Int32) (hig : Nat → Int32) (pri : Nat → Int32) (ups : Nat → Int32) (dow : Nat → Int32) (flo : Nat → Int32) (sro : Nat → Int32) (sco : Nat → Int32) (x3 : Int64) (lp : Nat → Int64) (lg : Nat → Int64) (lz : Nat → Int64) (ls : Int64) (lo : Int32) : Nat → Int64 × (Nat → Int64) × (Nat → Int64) × (Nat → Int64) × Int64 × Int32
  | 0 => (x3, lp, lg, lz, ls, lo)
  | k17 + 1 => f_Lone_movePrices_L17s H U dem kin hig pri ups dow flo sro sco k17 ((f_Lone_movePrices_L17 H U dem kin hig pri ups dow flo sro sco x3 lp lg lz ls lo k17).1) ((f_Lone_movePrices_L17 H U dem kin hig pri ups dow flo sro sco x3 lp lg lz ls lo k17).2.1) ((f_Lone_movePrices_L17 H U dem kin hig pri ups dow flo sro sco x3 lp lg lz ls lo k17).2.2.1) ((f_Lone_movePrices_L17 H U dem kin hig pri ups dow flo sro sco x3 lp lg lz ls lo k17).2.2.2.1) ((f_Lone_movePrices_L17 H U dem kin hig pri ups dow flo sro sco x3 lp lg lz ls lo k17).2.2.2.2.1) ((f_Lone_movePrices_L17 H U dem kin hig pri ups dow flo sro sco x3 lp lg lz ls lo k17).2.2.2.2.2)
def f_Lone_movePrices (lp : Nat → Int64) (lg : Nat → Int64) (lz : Nat → Int64) (ls : Int64) (lo : Int32) (H : Nat) (U : Nat) (dem : Nat → Int32) (kin : Nat → Int32) (hig : Nat → Int32) (pri : Nat → Int32) (ups : Nat → Int32) (dow : Nat → Int32) (flo : Nat → Int32) (sro : Nat → Int32) (sco : Nat → Int32) (n : Nat) : Int64 × (Nat → Int64) × (Nat → Int64) × (Nat → Int64) × Int64 × Int32 := ((fun q1 => ((fun q5 => (q5.1, q5.2.1, q5.2.2.1, q5.2.2.2.1, q5.2.2.2.2.1, q5.2.2.2.2.2)) (f_Lone_movePrices_L17 H U dem kin hig pri ups dow flo sro sco q1.1 (f_fillJ 6 lp (0 : Int64)) q1.2.1 q1.2.2.1 q1.2.2.2.1 q1.2.2.2.2 n))) (f_Lone_boundOf (f_fillJ 6 lp (0 : Int64)) lg lz ls lo H U dem kin hig pri ups dow flo sro sco))
set_option maxRecDepth 20000 in
set_option maxHeartbeats 4000000 in
theorem c_Lone_movePrices {G : mG} {h : mHp} {d : Nat} {lb : Nat} {lp : Nat → Int64} {lg : Nat → Int64} {lz : Nat → Int64} {ls : Int64} {lo : Int32} {H : Nat} {U : Nat} {res : Int32} {dem : Nat → Int32} {kin : Nat → Int32} {low : Nat → Int32} {hig : Nat → Int32} {pri : Nat → Int32} {sta : Nat → Int32} {ups : Nat → Int32} {dow : Nat → Int32} {onn : Nat → Int32} {ord : Nat → Nat} {flo : Nat → Int32} {sro : Nat → Int32} {sco : Nat → Int32} {n : Nat} (hw_d : isV h d (dayL d H U res dem kin low hig pri sta ups dow onn ord flo sro sco)) (dj_d_l : d + 14 ≤ lb ∨ lb + 4 ≤ d) (hU : U ≤ 4) (hH : H ≤ 6) (hn : n ≤ 12) : Ret G 5 mX3_movePrices [.ref lb, .ref d, .int (nI n)] (ov h lb (lonL lb lp lg lz ls lo)) (some (.long (f_Lone_movePrices lp lg lz ls lo H U dem kin hig pri ups dow flo sro sco n).1)) (ov h lb (lonL lb (f_Lone_movePrices lp lg lz ls lo H U dem kin hig pri ups dow flo sro sco n).2.1 (f_Lone_movePrices lp lg lz ls lo H U dem kin hig pri ups dow flo sro sco n).2.2.1 (f_Lone_movePrices lp lg lz ls lo H U dem kin hig pri ups dow flo sro sco n).2.2.2.1 (f_Lone_movePrices lp lg lz ls lo H U dem kin hig pri ups dow flo sro sco n).2.2.2.2.1 (f_Lone_movePrices lp lg lz ls lo H U dem kin hig pri ups dow flo sro sco n).2.2.2.2.2)) := by
  generalize hf : f_Lone_movePrices lp lg lz ls lo H U dem kin hig pri ups dow flo sro sco n = R
  unfold f_Lone_movePrices at hf
  refine Ret.of [(0, .ref lb), (1, .ref d), (2, .int (nI n))] (by decide) (Nat.le_of_ble_eq_true rfl) rfl ?_
  rintro Z rfl X Y
  have hv_l : isV (ov h lb (lonL lb lp lg lz ls lo)) lb (lonL lb lp lg lz ls lo) := ov_isV
  have hv_d : isV (ov h lb (lonL lb lp lg lz ls lo)) d (dayL d H U res dem kin low hig pri sta ups dow onn ord flo sro sco) := isV_ov dj_d_l (hw_d)
  refine r_aload_n X 0 dX3_movePrices_0 rfl ?_
  refine gf_X3_9 X dX3_movePrices_1 (hv_l 0 _ rfl) rfl ?_
  refine r_lconst X (0 : Int64) dX3_movePrices_4 (by decide) ?_
  refine cl_X3_85 X (by decide) dX3_movePrices_5 (Nat.le_of_ble_eq_true rfl) (c_fillJ_up (hv_l 1 _ rfl) (by decide)) ?_
  refine SW.heq (h2 := (ov h lb (lonL lb (f_fillJ 6 lp (0 : Int64)) lg lz ls lo))) (ov_up 1 (Nat.le_of_ble_eq_true rfl) rfl) ?_
  have hv_l : isV (ov h lb (lonL lb (f_fillJ 6 lp (0 : Int64)) lg lz ls lo)) lb (lonL lb (f_fillJ 6 lp (0 : Int64)) lg lz ls lo) := ov_isV
  have hv_d : isV (ov h lb (lonL lb (f_fillJ 6 lp (0 : Int64)) lg lz ls lo)) d (dayL d H U res dem kin low hig pri sta ups dow onn ord flo sro sco) := isV_ov dj_d_l (hw_d)
  refine r_aload_n X 0 dX3_movePrices_8 rfl ?_
  refine r_aload_n X 1 dX3_movePrices_9 rfl ?_
  refine cl_X3_91 X (by decide) dX3_movePrices_10 (Nat.le_of_ble_eq_true rfl) (hv_l 0 _ rfl) (c_Lone_boundOf hw_d (by first | assumption | omega) (by first | assumption | omega) (by first | assumption | omega)) ?_
  obtain ⟨q1, eq1⟩ : ∃ q, q = f_Lone_boundOf (f_fillJ 6 lp (0 : Int64)) lg lz ls lo H U dem kin hig pri ups dow flo sro sco := ⟨_, rfl⟩
  rw [← eq1]
  rw [← eq1] at hf
  try dsimp only at hf
  have hv_l : isV (ov h lb (lonL lb (f_fillJ 6 lp (0 : Int64)) q1.2.1 q1.2.2.1 q1.2.2.2.1 q1.2.2.2.2)) lb (lonL lb (f_fillJ 6 lp (0 : Int64)) q1.2.1 q1.2.2.1 q1.2.2.2.1 q1.2.2.2.2) := ov_isV
  have hv_d : isV (ov h lb (lonL lb (f_fillJ 6 lp (0 : Int64)) q1.2.1 q1.2.2.1 q1.2.2.2.1 q1.2.2.2.2)) d (dayL d H U res dem kin low hig pri sta ups dow onn ord flo sro sco) := isV_ov dj_d_l (hw_d)
  refine r_lstore_n [(0, .ref lb), (1, .ref d), (2, .int (nI n)), (3, .long q1.1)] X dX3_movePrices_13 rfl (by decide) rfl ?_
  refine r_iconst X (0 : Int32) dX3_movePrices_14 (by decide) ?_
  refine r_istore [(0, .ref lb), (1, .ref d), (2, .int (nI n)), (3, .long q1.1), (5, .int (0 : Int32))] X dX3_movePrices_15 (by decide) rfl ?_
  refine loop_up (P := fun k2 => SW Z 17 [(0, .ref lb), (1, .ref d), (2, .int (nI n)), (3, .long ((f_Lone_movePrices_L17 H U dem kin hig pri ups dow flo sro sco q1.1 (f_fillJ 6 lp (0 : Int64)) q1.2.1 q1.2.2.1 q1.2.2.2.1 q1.2.2.2.2 k2).1)), (5, .int (nI k2))] [] (ov h lb (lonL lb ((f_Lone_movePrices_L17 H U dem kin hig pri ups dow flo sro sco q1.1 (f_fillJ 6 lp (0 : Int64)) q1.2.1 q1.2.2.1 q1.2.2.2.1 q1.2.2.2.2 k2).2.1) ((f_Lone_movePrices_L17 H U dem kin hig pri ups dow flo sro sco q1.1 (f_fillJ 6 lp (0 : Int64)) q1.2.1 q1.2.2.1 q1.2.2.2.1 q1.2.2.2.2 k2).2.2.1) ((f_Lone_movePrices_L17 H U dem kin hig pri ups dow flo sro sco q1.1 (f_fillJ 6 lp (0 : Int64)) q1.2.1 q1.2.2.1 q1.2.2.2.1 q1.2.2.2.2 k2).2.2.2.1) ((f_Lone_movePrices_L17 H U dem kin hig pri ups dow flo sro sco q1.1 (f_fillJ 6 lp (0 : Int64)) q1.2.1 q1.2.2.1 q1.2.2.2.1 q1.2.2.2.2 k2).2.2.2.2.1) ((f_Lone_movePrices_L17 H U dem kin hig pri ups dow flo sro sco q1.1 (f_fillJ 6 lp (0 : Int64)) q1.2.1 q1.2.2.1 q1.2.2.2.1 q1.2.2.2.2 k2).2.2.2.2.2)))) n ?_ ?_ 0 (Nat.zero_le _)
  rotate_left
  · intro k2 hk2 ih
    have hv_l : isV (ov h lb (lonL lb ((f_Lone_movePrices_L17 H U dem kin hig pri ups dow flo sro sco q1.1 (f_fillJ 6 lp (0 : Int64)) q1.2.1 q1.2.2.1 q1.2.2.2.1 q1.2.2.2.2 k2).2.1) ((f_Lone_movePrices_L17 H U dem kin hig pri ups dow flo sro sco q1.1 (f_fillJ 6 lp (0 : Int64)) q1.2.1 q1.2.2.1 q1.2.2.2.1 q1.2.2.2.2 k2).2.2.1) ((f_Lone_movePrices_L17 H U dem kin hig pri ups dow flo sro sco q1.1 (f_fillJ 6 lp (0 : Int64)) q1.2.1 q1.2.2.1 q1.2.2.2.1 q1.2.2.2.2 k2).2.2.2.1) ((f_Lone_movePrices_L17 H U dem kin hig pri ups dow flo sro sco q1.1 (f_fillJ 6 lp (0 : Int64)) q1.2.1 q1.2.2.1 q1.2.2.2.1 q1.2.2.2.2 k2).2.2.2.2.1) ((f_Lone_movePrices_L17 H U dem kin hig pri ups dow flo sro sco q1.1 (f_fillJ 6 lp (0 : Int64)) q1.2.1 q1.2.2.1 q1.2.2.2.1 q1.2.2.2.2 k2).2.2.2.2.2))) lb (lonL lb ((f_Lone_movePrices_L17 H U dem kin hig pri ups dow flo sro sco q1.1 (f_fillJ 6 lp (0 : Int64)) q1.2.1 q1.2.2.1 q1.2.2.2.1 q1.2.2.2.2 k2).2.1) ((f_Lone_movePrices_L17 H U dem kin hig pri ups dow flo sro sco q1.1 (f_fillJ 6 lp (0 : Int64)) q1.2.1 q1.2.2.1 q1.2.2.2.1 q1.2.2.2.2 k2).2.2.1) ((f_Lone_movePrices_L17 H U dem kin hig pri ups dow flo sro sco q1.1 (f_fillJ 6 lp (0 : Int64)) q1.2.1 q1.2.2.1 q1.2.2.2.1 q1.2.2.2.2 k2).2.2.2.1) ((f_Lone_movePrices_L17 H U dem kin hig pri ups dow flo sro sco q1.1 (f_fillJ 6 lp (0 : Int64)) q1.2.1 q1.2.2.1 q1.2.2.2.1 q1.2.2.2.2 k2).2.2.2.2.1) ((f_Lone_movePrices_L17 H U dem kin hig pri ups dow flo sro sco q1.1 (f_fillJ 6 lp (0 : Int64)) q1.2.1 q1.2.2.1 q1.2.2.2.1 q1.2.2.2.2 k2).2.2.2.2.2)) := ov_isV
    have hv_d : isV (ov h lb (lonL lb ((f_Lone_movePrices_L17 H U dem kin hig pri ups dow flo sro sco q1.1 (f_fillJ 6 lp (0 : Int64)) q1.2.1 q1.2.2.1 q1.2.2.2.1 q1.2.2.2.2 k2).2.1) ((f_Lone_movePrices_L17 H U dem kin hig pri ups dow flo sro sco q1.1 (f_fillJ 6 lp (0 : Int64)) q1.2.1 q1.2.2.1 q1.2.2.2.1 q1.2.2.2.2 k2).2.2.1) ((f_Lone_movePrices_L17 H U dem kin hig pri ups dow flo sro sco q1.1 (f_fillJ 6 lp (0 : Int64)) q1.2.1 q1.2.2.1 q1.2.2.2.1 q1.2.2.2.2 k2).2.2.2.1) ((f_Lone_movePrices_L17 H U dem kin hig pri ups dow flo sro sco q1.1 (f_fillJ 6 lp (0 : Int64)) q1.2.1 q1.2.2.1 q1.2.2.2.1 q1.2.2.2.2 k2).2.2.2.2.1) ((f_Lone_movePrices_L17 H U dem kin hig pri ups dow flo sro sco q1.1 (f_fillJ 6 lp (0 : Int64)) q1.2.1 q1.2.2.1 q1.2.2.2.1 q1.2.2.2.2 k2).2.2.2.2.2))) d (dayL d H U res dem kin low hig pri sta ups dow onn ord flo sro sco) := isV_ov dj_d_l (hw_d)
    refine r_iload X 4 dX3_movePrices_17 rfl ?_
    refine r_iload_n X 2 dX3_movePrices_19 rfl ?_
    refine r_icmp_ge X 92 dX3_movePrices_20 rfl (fun z => absurd (nI_lt (a := k2) (b := n) (by omega) (by omega)) z) (fun _ => ?_)
    refine r_iconst X (0 : Int32) dX3_movePrices_23 (by decide) ?_
    refine r_istore [(0, .ref lb), (1, .ref d), (2, .int (nI n)), (3, .long ((f_Lone_movePrices_L17 H U dem kin hig pri ups dow flo sro sco q1.1 (f_fillJ 6 lp (0 : Int64)) q1.2.1 q1.2.2.1 q1.2.2.2.1 q1.2.2.2.2 k2).1)), (5, .int (nI k2)), (6, .int (0 : Int32))] X dX3_movePrices_24 (by decide) rfl ?_
    refine loop_up (P := fun k3 => SW Z 26 [(0, .ref lb), (1, .ref d), (2, .int (nI n)), (3, .long ((f_Lone_movePrices_L17 H U dem kin hig pri ups dow flo sro sco q1.1 (f_fillJ 6 lp (0 : Int64)) q1.2.1 q1.2.2.1 q1.2.2.2.1 q1.2.2.2.2 k2).1)), (5, .int (nI k2)), (6, .int (nI k3))] [] (ov h lb (lonL lb (f_Lone_movePrices_L26 ((f_Lone_movePrices_L17 H U dem kin hig pri ups dow flo sro sco q1.1 (f_fillJ 6 lp (0 : Int64)) q1.2.1 q1.2.2.1 q1.2.2.2.1 q1.2.2.2.2 k2).2.2.1) dem ((f_Lone_movePrices_L17 H U dem kin hig pri ups dow flo sro sco q1.1 (f_fillJ 6 lp (0 : Int64)) q1.2.1 q1.2.2.1 q1.2.2.2.1 q1.2.2.2.2 k2).2.1) k3) ((f_Lone_movePrices_L17 H U dem kin hig pri ups dow flo sro sco q1.1 (f_fillJ 6 lp (0 : Int64)) q1.2.1 q1.2.2.1 q1.2.2.2.1 q1.2.2.2.2 k2).2.2.1) ((f_Lone_movePrices_L17 H U dem kin hig pri ups dow flo sro sco q1.1 (f_fillJ 6 lp (0 : Int64)) q1.2.1 q1.2.2.1 q1.2.2.2.1 q1.2.2.2.2 k2).2.2.2.1) ((f_Lone_movePrices_L17 H U dem kin hig pri ups dow flo sro sco q1.1 (f_fillJ 6 lp (0 : Int64)) q1.2.1 q1.2.2.1 q1.2.2.2.1 q1.2.2.2.2 k2).2.2.2.2.1) ((f_Lone_movePrices_L17 H U dem kin hig pri ups dow flo sro sco q1.1 (f_fillJ 6 lp (0 : Int64)) q1.2.1 q1.2.2.1 q1.2.2.2.1 q1.2.2.2.2 k2).2.2.2.2.2)))) H ?_ ?_ 0 (Nat.zero_le _)
    rotate_left
    · intro k3 hk3 ih
      have hv_l : isV (ov h lb (lonL lb (f_Lone_movePrices_L26 ((f_Lone_movePrices_L17 H U dem kin hig pri ups dow flo sro sco q1.1 (f_fillJ 6 lp (0 : Int64)) q1.2.1 q1.2.2.1 q1.2.2.2.1 q1.2.2.2.2 k2).2.2.1) dem ((f_Lone_movePrices_L17 H U dem kin hig pri ups dow flo sro sco q1.1 (f_fillJ 6 lp (0 : Int64)) q1.2.1 q1.2.2.1 q1.2.2.2.1 q1.2.2.2.2 k2).2.1) k3) ((f_Lone_movePrices_L17 H U dem kin hig pri ups dow flo sro sco q1.1 (f_fillJ 6 lp (0 : Int64)) q1.2.1 q1.2.2.1 q1.2.2.2.1 q1.2.2.2.2 k2).2.2.1) ((f_Lone_movePrices_L17 H U dem kin hig pri ups dow flo sro sco q1.1 (f_fillJ 6 lp (0 : Int64)) q1.2.1 q1.2.2.1 q1.2.2.2.1 q1.2.2.2.2 k2).2.2.2.1) ((f_Lone_movePrices_L17 H U dem kin hig pri ups dow flo sro sco q1.1 (f_fillJ 6 lp (0 : Int64)) q1.2.1 q1.2.2.1 q1.2.2.2.1 q1.2.2.2.2 k2).2.2.2.2.1) ((f_Lone_movePrices_L17 H U dem kin hig pri ups dow flo sro sco q1.1 (f_fillJ 6 lp (0 : Int64)) q1.2.1 q1.2.2.1 q1.2.2.2.1 q1.2.2.2.2 k2).2.2.2.2.2))) lb (lonL lb (f_Lone_movePrices_L26 ((f_Lone_movePrices_L17 H U dem kin hig pri ups dow flo sro sco q1.1 (f_fillJ 6 lp (0 : Int64)) q1.2.1 q1.2.2.1 q1.2.2.2.1 q1.2.2.2.2 k2).2.2.1) dem ((f_Lone_movePrices_L17 H U dem kin hig pri ups dow flo sro sco q1.1 (f_fillJ 6 lp (0 : Int64)) q1.2.1 q1.2.2.1 q1.2.2.2.1 q1.2.2.2.2 k2).2.1) k3) ((f_Lone_movePrices_L17 H U dem kin hig pri ups dow flo sro sco q1.1 (f_fillJ 6 lp (0 : Int64)) q1.2.1 q1.2.2.1 q1.2.2.2.1 q1.2.2.2.2 k2).2.2.1) ((f_Lone_movePrices_L17 H U dem kin hig pri ups dow flo sro sco q1.1 (f_fillJ 6 lp (0 : Int64)) q1.2.1 q1.2.2.1 q1.2.2.2.1 q1.2.2.2.2 k2).2.2.2.1) ((f_Lone_movePrices_L17 H U dem kin hig pri ups dow flo sro sco q1.1 (f_fillJ 6 lp (0 : Int64)) q1.2.1 q1.2.2.1 q1.2.2.2.1 q1.2.2.2.2 k2).2.2.2.2.1) ((f_Lone_movePrices_L17 H U dem kin hig pri ups dow flo sro sco q1.1 (f_fillJ 6 lp (0 : Int64)) q1.2.1 q1.2.2.1 q1.2.2.2.1 q1.2.2.2.2 k2).2.2.2.2.2)) := ov_isV
      have hv_d : isV (ov h lb (lonL lb (f_Lone_movePrices_L26 ((f_Lone_movePrices_L17 H U dem kin hig pri ups dow flo sro sco q1.1 (f_fillJ 6 lp (0 : Int64)) q1.2.1 q1.2.2.1 q1.2.2.2.1 q1.2.2.2.2 k2).2.2.1) dem ((f_Lone_movePrices_L17 H U dem kin hig pri ups dow flo sro sco q1.1 (f_fillJ 6 lp (0 : Int64)) q1.2.1 q1.2.2.1 q1.2.2.2.1 q1.2.2.2.2 k2).2.1) k3) ((f_Lone_movePrices_L17 H U dem kin hig pri ups dow flo sro sco q1.1 (f_fillJ 6 lp (0 : Int64)) q1.2.1 q1.2.2.1 q1.2.2.2.1 q1.2.2.2.2 k2).2.2.1) ((f_Lone_movePrices_L17 H U dem kin hig pri ups dow flo sro sco q1.1 (f_fillJ 6 lp (0 : Int64)) q1.2.1 q1.2.2.1 q1.2.2.2.1 q1.2.2.2.2 k2).2.2.2.1) ((f_Lone_movePrices_L17 H U dem kin hig pri ups dow flo sro sco q1.1 (f_fillJ 6 lp (0 : Int64)) q1.2.1 q1.2.2.1 q1.2.2.2.1 q1.2.2.2.2 k2).2.2.2.2.1) ((f_Lone_movePrices_L17 H U dem kin hig pri ups dow flo sro sco q1.1 (f_fillJ 6 lp (0 : Int64)) q1.2.1 q1.2.2.1 q1.2.2.2.1 q1.2.2.2.2 k2).2.2.2.2.2))) d (dayL d H U res dem kin low hig pri sta ups dow onn ord flo sro sco) := isV_ov dj_d_l (hw_d)
      refine r_iload X 5 dX3_movePrices_26 rfl ?_
      refine r_aload_n X 1 dX3_movePrices_28 rfl ?_
      refine gf_X3_43 X dX3_movePrices_29 (hv_d 0 _ rfl) rfl ?_
      refine r_icmp_ge X 76 dX3_movePrices_32 rfl (fun z => absurd (nI_lt (a := k3) (b := H) (by omega) (by omega)) z) (fun _ => ?_)
      refine r_aload_n X 0 dX3_movePrices_35 rfl ?_
      refine gf_X3_9 X dX3_movePrices_36 (hv_l 0 _ rfl) rfl ?_
      refine r_iload X 5 dX3_movePrices_39 rfl ?_
      refine r_lconst X (0 : Int64) dX3_movePrices_41 (by decide) ?_
      refine r_aload_n X 0 dX3_movePrices_42 rfl ?_
      refine gf_X3_9 X dX3_movePrices_43 (hv_l 0 _ rfl) rfl ?_
      refine r_iload X 5 dX3_movePrices_46 rfl ?_
      refine r_laldn X (k0 := k3) dX3_movePrices_48 (hv_l 1 _ rfl) (by omega) (by decide) ?_
      refine r_aload_n X 1 dX3_movePrices_49 rfl ?_
      refine gf_X3_72 X dX3_movePrices_50 (hv_d 0 _ rfl) rfl ?_
      refine r_iload X 5 dX3_movePrices_53 rfl ?_
      refine r_ialdn X (k0 := k3) dX3_movePrices_55 (hv_d 1 _ rfl) (by omega) (by decide) ?_
      refine r_i2l X dX3_movePrices_56 ?_
      refine r_ladd X dX3_movePrices_57 ?_
      refine r_aload_n X 0 dX3_movePrices_58 rfl ?_
      refine gf_X3_15 X dX3_movePrices_59 (hv_l 0 _ rfl) rfl ?_
      refine r_iload X 5 dX3_movePrices_62 rfl ?_
      refine r_laldn X (k0 := k3) dX3_movePrices_64 (hv_l 2 _ rfl) (by omega) (by decide) ?_
      refine r_lsub X dX3_movePrices_65 ?_
      refine mm_X3_95 X (by decide) dX3_movePrices_66 (Nat.le_of_ble_eq_true rfl) ?_
      refine r_lastn X (k0 := k3) dX3_movePrices_69 (hv_l 1 _ rfl) (by omega) (by first | decide | omega) ?_
      refine SW.heq (h2 := (ov h lb (lonL lb (vp_updL (f_Lone_movePrices_L26 ((f_Lone_movePrices_L17 H U dem kin hig pri ups dow flo sro sco q1.1 (f_fillJ 6 lp (0 : Int64)) q1.2.1 q1.2.2.1 q1.2.2.2.1 q1.2.2.2.2 k2).2.2.1) dem ((f_Lone_movePrices_L17 H U dem kin hig pri ups dow flo sro sco q1.1 (f_fillJ 6 lp (0 : Int64)) q1.2.1 q1.2.2.1 q1.2.2.2.1 q1.2.2.2.2 k2).2.1) k3) k3 (f_Math_maxJ (0 : Int64) ((((f_Lone_movePrices_L26 ((f_Lone_movePrices_L17 H U dem kin hig pri ups dow flo sro sco q1.1 (f_fillJ 6 lp (0 : Int64)) q1.2.1 q1.2.2.1 q1.2.2.2.1 q1.2.2.2.2 k2).2.2.1) dem ((f_Lone_movePrices_L17 H U dem kin hig pri ups dow flo sro sco q1.1 (f_fillJ 6 lp (0 : Int64)) q1.2.1 q1.2.2.1 q1.2.2.2.1 q1.2.2.2.2 k2).2.1) k3) k3) + ((dem k3).toInt64)) - (((f_Lone_movePrices_L17 H U dem kin hig pri ups dow flo sro sco q1.1 (f_fillJ 6 lp (0 : Int64)) q1.2.1 q1.2.2.1 q1.2.2.2.1 q1.2.2.2.2 k2).2.2.1) k3)))) ((f_Lone_movePrices_L17 H U dem kin hig pri ups dow flo sro sco q1.1 (f_fillJ 6 lp (0 : Int64)) q1.2.1 q1.2.2.1 q1.2.2.2.1 q1.2.2.2.2 k2).2.2.1) ((f_Lone_movePrices_L17 H U dem kin hig pri ups dow flo sro sco q1.1 (f_fillJ 6 lp (0 : Int64)) q1.2.1 q1.2.2.1 q1.2.2.2.1 q1.2.2.2.2 k2).2.2.2.1) ((f_Lone_movePrices_L17 H U dem kin hig pri ups dow flo sro sco q1.1 (f_fillJ 6 lp (0 : Int64)) q1.2.1 q1.2.2.1 q1.2.2.2.1 q1.2.2.2.2 k2).2.2.2.2.1) ((f_Lone_movePrices_L17 H U dem kin hig pri ups dow flo sro sco q1.1 (f_fillJ 6 lp (0 : Int64)) q1.2.1 q1.2.2.1 q1.2.2.2.1 q1.2.2.2.2 k2).2.2.2.2.2)))) (ov_up 1 (Nat.le_of_ble_eq_true rfl) rfl) ?_
      have hv_l : isV (ov h lb (lonL lb (vp_updL (f_Lone_movePrices_L26 ((f_Lone_movePrices_L17 H U dem kin hig pri ups dow flo sro sco q1.1 (f_fillJ 6 lp (0 : Int64)) q1.2.1 q1.2.2.1 q1.2.2.2.1 q1.2.2.2.2 k2).2.2.1) dem ((f_Lone_movePrices_L17 H U dem kin hig pri ups dow flo sro sco q1.1 (f_fillJ 6 lp (0 : Int64)) q1.2.1 q1.2.2.1 q1.2.2.2.1 q1.2.2.2.2 k2).2.1) k3) k3 (f_Math_maxJ (0 : Int64) ((((f_Lone_movePrices_L26 ((f_Lone_movePrices_L17 H U dem kin hig pri ups dow flo sro sco q1.1 (f_fillJ 6 lp (0 : Int64)) q1.2.1 q1.2.2.1 q1.2.2.2.1 q1.2.2.2.2 k2).2.2.1) dem ((f_Lone_movePrices_L17 H U dem kin hig pri ups dow flo sro sco q1.1 (f_fillJ 6 lp (0 : Int64)) q1.2.1 q1.2.2.1 q1.2.2.2.1 q1.2.2.2.2 k2).2.1) k3) k3) + ((dem k3).toInt64)) - (((f_Lone_movePrices_L17 H U dem kin hig pri ups dow flo sro sco q1.1 (f_fillJ 6 lp (0 : Int64)) q1.2.1 q1.2.2.1 q1.2.2.2.1 q1.2.2.2.2 k2).2.2.1) k3)))) ((f_Lone_movePrices_L17 H U dem kin hig pri ups dow flo sro sco q1.1 (f_fillJ 6 lp (0 : Int64)) q1.2.1 q1.2.2.1 q1.2.2.2.1 q1.2.2.2.2 k2).2.2.1) ((f_Lone_movePrices_L17 H U dem kin hig pri ups dow flo sro sco q1.1 (f_fillJ 6 lp (0 : Int64)) q1.2.1 q1.2.2.1 q1.2.2.2.1 q1.2.2.2.2 k2).2.2.2.1) ((f_Lone_movePrices_L17 H U dem kin hig pri ups dow flo sro sco q1.1 (f_fillJ 6 lp (0 : Int64)) q1.2.1 q1.2.2.1 q1.2.2.2.1 q1.2.2.2.2 k2).2.2.2.2.1) ((f_Lone_movePrices_L17 H U dem kin hig pri ups dow flo sro sco q1.1 (f_fillJ 6 lp (0 : Int64)) q1.2.1 q1.2.2.1 q1.2.2.2.1 q1.2.2.2.2 k2).2.2.2.2.2))) lb (lonL lb (vp_updL (f_Lone_movePrices_L26 ((f_Lone_movePrices_L17 H U dem kin hig pri ups dow flo sro sco q1.1 (f_fillJ 6 lp (0 : Int64)) q1.2.1 q1.2.2.1 q1.2.2.2.1 q1.2.2.2.2 k2).2.2.1) dem ((f_Lone_movePrices_L17 H U dem kin hig pri ups dow flo sro sco q1.1 (f_fillJ 6 lp (0 : Int64)) q1.2.1 q1.2.2.1 q1.2.2.2.1 q1.2.2.2.2 k2).2.1) k3) k3 (f_Math_maxJ (0 : Int64) ((((f_Lone_movePrices_L26 ((f_Lone_movePrices_L17 H U dem kin hig pri ups dow flo sro sco q1.1 (f_fillJ 6 lp (0 : Int64)) q1.2.1 q1.2.2.1 q1.2.2.2.1 q1.2.2.2.2 k2).2.2.1) dem ((f_Lone_movePrices_L17 H U dem kin hig pri ups dow flo sro sco q1.1 (f_fillJ 6 lp (0 : Int64)) q1.2.1 q1.2.2.1 q1.2.2.2.1 q1.2.2.2.2 k2).2.1) k3) k3) + ((dem k3).toInt64)) - (((f_Lone_movePrices_L17 H U dem kin hig pri ups dow flo sro sco q1.1 (f_fillJ 6 lp (0 : Int64)) q1.2.1 q1.2.2.1 q1.2.2.2.1 q1.2.2.2.2 k2).2.2.1) k3)))) ((f_Lone_movePrices_L17 H U dem kin hig pri ups dow flo sro sco q1.1 (f_fillJ 6 lp (0 : Int64)) q1.2.1 q1.2.2.1 q1.2.2.2.1 q1.2.2.2.2 k2).2.2.1) ((f_Lone_movePrices_L17 H U dem kin hig pri ups dow flo sro sco q1.1 (f_fillJ 6 lp (0 : Int64)) q1.2.1 q1.2.2.1 q1.2.2.2.1 q1.2.2.2.2 k2).2.2.2.1) ((f_Lone_movePrices_L17 H U dem kin hig pri ups dow flo sro sco q1.1 (f_fillJ 6 lp (0 : Int64)) q1.2.1 q1.2.2.1 q1.2.2.2.1 q1.2.2.2.2 k2).2.2.2.2.1) ((f_Lone_movePrices_L17 H U dem kin hig pri ups dow flo sro sco q1.1 (f_fillJ 6 lp (0 : Int64)) q1.2.1 q1.2.2.1 q1.2.2.2.1 q1.2.2.2.2 k2).2.2.2.2.2)) := ov_isV
      have hv_d : isV (ov h lb (lonL lb (vp_updL (f_Lone_movePrices_L26 ((f_Lone_movePrices_L17 H U dem kin hig pri ups dow flo sro sco q1.1 (f_fillJ 6 lp (0 : Int64)) q1.2.1 q1.2.2.1 q1.2.2.2.1 q1.2.2.2.2 k2).2.2.1) dem ((f_Lone_movePrices_L17 H U dem kin hig pri ups dow flo sro sco q1.1 (f_fillJ 6 lp (0 : Int64)) q1.2.1 q1.2.2.1 q1.2.2.2.1 q1.2.2.2.2 k2).2.1) k3) k3 (f_Math_maxJ (0 : Int64) ((((f_Lone_movePrices_L26 ((f_Lone_movePrices_L17 H U dem kin hig pri ups dow flo sro sco q1.1 (f_fillJ 6 lp (0 : Int64)) q1.2.1 q1.2.2.1 q1.2.2.2.1 q1.2.2.2.2 k2).2.2.1) dem ((f_Lone_movePrices_L17 H U dem kin hig pri ups dow flo sro sco q1.1 (f_fillJ 6 lp (0 : Int64)) q1.2.1 q1.2.2.1 q1.2.2.2.1 q1.2.2.2.2 k2).2.1) k3) k3) + ((dem k3).toInt64)) - (((f_Lone_movePrices_L17 H U dem kin hig pri ups dow flo sro sco q1.1 (f_fillJ 6 lp (0 : Int64)) q1.2.1 q1.2.2.1 q1.2.2.2.1 q1.2.2.2.2 k2).2.2.1) k3)))) ((f_Lone_movePrices_L17 H U dem kin hig pri ups dow flo sro sco q1.1 (f_fillJ 6 lp (0 : Int64)) q1.2.1 q1.2.2.1 q1.2.2.2.1 q1.2.2.2.2 k2).2.2.1) ((f_Lone_movePrices_L17 H U dem kin hig pri ups dow flo sro sco q1.1 (f_fillJ 6 lp (0 : Int64)) q1.2.1 q1.2.2.1 q1.2.2.2.1 q1.2.2.2.2 k2).2.2.2.1) ((f_Lone_movePrices_L17 H U dem kin hig pri ups dow flo sro sco q1.1 (f_fillJ 6 lp (0 : Int64)) q1.2.1 q1.2.2.1 q1.2.2.2.1 q1.2.2.2.2 k2).2.2.2.2.1) ((f_Lone_movePrices_L17 H U dem kin hig pri ups dow flo sro sco q1.1 (f_fillJ 6 lp (0 : Int64)) q1.2.1 q1.2.2.1 q1.2.2.2.1 q1.2.2.2.2 k2).2.2.2.2.2))) d (dayL d H U res dem kin low hig pri sta ups dow onn ord flo sro sco) := isV_ov dj_d_l (hw_d)
      refine r_iinc [(0, .ref lb), (1, .ref d), (2, .int (nI n)), (3, .long ((f_Lone_movePrices_L17 H U dem kin hig pri ups dow flo sro sco q1.1 (f_fillJ 6 lp (0 : Int64)) q1.2.1 q1.2.2.1 q1.2.2.2.1 q1.2.2.2.2 k2).1)), (5, .int (nI k2)), (6, .int (nI (k3 + 1)))] X (nI (k3 + 1)) 5 dX3_movePrices_70 rfl (nI_succ _).symm (by decide) rfl ?_
      refine r_goto X 26 dX3_movePrices_73 rfl ?_
      exact ih
    obtain ⟨q3, eq3⟩ : ∃ q, q = f_Lone_movePrices_L26 ((f_Lone_movePrices_L17 H U dem kin hig pri ups dow flo sro sco q1.1 (f_fillJ 6 lp (0 : Int64)) q1.2.1 q1.2.2.1 q1.2.2.2.1 q1.2.2.2.2 k2).2.2.1) dem ((f_Lone_movePrices_L17 H U dem kin hig pri ups dow flo sro sco q1.1 (f_fillJ 6 lp (0 : Int64)) q1.2.1 q1.2.2.1 q1.2.2.2.1 q1.2.2.2.2 k2).2.1) H := ⟨_, rfl⟩
    rw [← eq3]
    have hv_l : isV (ov h lb (lonL lb q3 ((f_Lone_movePrices_L17 H U dem kin hig pri ups dow flo sro sco q1.1 (f_fillJ 6 lp (0 : Int64)) q1.2.1 q1.2.2.1 q1.2.2.2.1 q1.2.2.2.2 k2).2.2.1) ((f_Lone_movePrices_L17 H U dem kin hig pri ups dow flo sro sco q1.1 (f_fillJ 6 lp (0 : Int64)) q1.2.1 q1.2.2.1 q1.2.2.2.1 q1.2.2.2.2 k2).2.2.2.1) ((f_Lone_movePrices_L17 H U dem kin hig pri ups dow flo sro sco q1.1 (f_fillJ 6 lp (0 : Int64)) q1.2.1 q1.2.2.1 q1.2.2.2.1 q1.2.2.2.2 k2).2.2.2.2.1) ((f_Lone_movePrices_L17 H U dem kin hig pri ups dow flo sro sco q1.1 (f_fillJ 6 lp (0 : Int64)) q1.2.1 q1.2.2.1 q1.2.2.2.1 q1.2.2.2.2 k2).2.2.2.2.2))) lb (lonL lb q3 ((f_Lone_movePrices_L17 H U dem kin hig pri ups dow flo sro sco q1.1 (f_fillJ 6 lp (0 : Int64)) q1.2.1 q1.2.2.1 q1.2.2.2.1 q1.2.2.2.2 k2).2.2.1) ((f_Lone_movePrices_L17 H U dem kin hig pri ups dow flo sro sco q1.1 (f_fillJ 6 lp (0 : Int64)) q1.2.1 q1.2.2.1 q1.2.2.2.1 q1.2.2.2.2 k2).2.2.2.1) ((f_Lone_movePrices_L17 H U dem kin hig pri ups dow flo sro sco q1.1 (f_fillJ 6 lp (0 : Int64)) q1.2.1 q1.2.2.1 q1.2.2.2.1 q1.2.2.2.2 k2).2.2.2.2.1) ((f_Lone_movePrices_L17 H U dem kin hig pri ups dow flo sro sco q1.1 (f_fillJ 6 lp (0 : Int64)) q1.2.1 q1.2.2.1 q1.2.2.2.1 q1.2.2.2.2 k2).2.2.2.2.2)) := ov_isV
    have hv_d : isV (ov h lb (lonL lb q3 ((f_Lone_movePrices_L17 H U dem kin hig pri ups dow flo sro sco q1.1 (f_fillJ 6 lp (0 : Int64)) q1.2.1 q1.2.2.1 q1.2.2.2.1 q1.2.2.2.2 k2).2.2.1) ((f_Lone_movePrices_L17 H U dem kin hig pri ups dow flo sro sco q1.1 (f_fillJ 6 lp (0 : Int64)) q1.2.1 q1.2.2.1 q1.2.2.2.1 q1.2.2.2.2 k2).2.2.2.1) ((f_Lone_movePrices_L17 H U dem kin hig pri ups dow flo sro sco q1.1 (f_fillJ 6 lp (0 : Int64)) q1.2.1 q1.2.2.1 q1.2.2.2.1 q1.2.2.2.2 k2).2.2.2.2.1) ((f_Lone_movePrices_L17 H U dem kin hig pri ups dow flo sro sco q1.1 (f_fillJ 6 lp (0 : Int64)) q1.2.1 q1.2.2.1 q1.2.2.2.1 q1.2.2.2.2 k2).2.2.2.2.2))) d (dayL d H U res dem kin low hig pri sta ups dow onn ord flo sro sco) := isV_ov dj_d_l (hw_d)
    refine r_iload X 5 dX3_movePrices_26 rfl ?_
    refine r_aload_n X 1 dX3_movePrices_28 rfl ?_
    refine gf_X3_43 X dX3_movePrices_29 (hv_d 0 _ rfl) rfl ?_
    refine r_icmp_ge X 76 dX3_movePrices_32 rfl (fun _ => ?_) (fun z => absurd z (nI_nlt (a := H) (b := H) (by omega) (by omega)))
    refine r_lload_n X 3 dX3_movePrices_76 rfl ?_
    refine r_aload_n X 0 dX3_movePrices_77 rfl ?_
    refine r_aload_n X 1 dX3_movePrices_78 rfl ?_
    refine cl_X3_91 X (by decide) dX3_movePrices_79 (Nat.le_of_ble_eq_true rfl) (hv_l 0 _ rfl) (c_Lone_boundOf hw_d (by first | assumption | omega) (by first | assumption | omega) (by first | assumption | omega)) ?_
    obtain ⟨q4, eq4⟩ : ∃ q, q = f_Lone_boundOf q3 ((f_Lone_movePrices_L17 H U dem kin hig pri ups dow flo sro sco q1.1 (f_fillJ 6 lp (0 : Int64)) q1.2.1 q1.2.2.1 q1.2.2.2.1 q1.2.2.2.2 k2).2.2.1) ((f_Lone_movePrices_L17 H U dem kin hig pri ups dow flo sro sco q1.1 (f_fillJ 6 lp (0 : Int64)) q1.2.1 q1.2.2.1 q1.2.2.2.1 q1.2.2.2.2 k2).2.2.2.1) ((f_Lone_movePrices_L17 H U dem kin hig pri ups dow flo sro sco q1.1 (f_fillJ 6 lp (0 : Int64)) q1.2.1 q1.2.2.1 q1.2.2.2.1 q1.2.2.2.2 k2).2.2.2.2.1) ((f_Lone_movePrices_L17 H U dem kin hig pri ups dow flo sro sco q1.1 (f_fillJ 6 lp (0 : Int64)) q1.2.1 q1.2.2.1 q1.2.2.2.1 q1.2.2.2.2 k2).2.2.2.2.2) H U dem kin hig pri ups dow flo sro sco := ⟨_, rfl⟩
    rw [← eq4]
    have hv_l : isV (ov h lb (lonL lb q3 q4.2.1 q4.2.2.1 q4.2.2.2.1 q4.2.2.2.2)) lb (lonL lb q3 q4.2.1 q4.2.2.1 q4.2.2.2.1 q4.2.2.2.2) := ov_isV
    have hv_d : isV (ov h lb (lonL lb q3 q4.2.1 q4.2.2.1 q4.2.2.2.1 q4.2.2.2.2)) d (dayL d H U res dem kin low hig pri sta ups dow onn ord flo sro sco) := isV_ov dj_d_l (hw_d)
    refine mm_X3_95 X (by decide) dX3_movePrices_82 (Nat.le_of_ble_eq_true rfl) ?_
    refine r_lstore_n [(0, .ref lb), (1, .ref d), (2, .int (nI n)), (3, .long (f_Math_maxJ ((f_Lone_movePrices_L17 H U dem kin hig pri ups dow flo sro sco q1.1 (f_fillJ 6 lp (0 : Int64)) q1.2.1 q1.2.2.1 q1.2.2.2.1 q1.2.2.2.2 k2).1) q4.1)), (5, .int (nI k2)), (6, .int (nI H))] X dX3_movePrices_85 rfl (by decide) rfl ?_
    refine r_iinc [(0, .ref lb), (1, .ref d), (2, .int (nI n)), (3, .long (f_Math_maxJ ((f_Lone_movePrices_L17 H U dem kin hig pri ups dow flo sro sco q1.1 (f_fillJ 6 lp (0 : Int64)) q1.2.1 q1.2.2.1 q1.2.2.2.1 q1.2.2.2.2 k2).1) q4.1)), (5, .int (nI (k2 + 1))), (6, .int (nI H))] X (nI (k2 + 1)) 4 dX3_movePrices_86 rfl (nI_succ _).symm (by decide) rfl ?_
    refine r_goto X 17 dX3_movePrices_89 rfl ?_
    refine SW.pick [0, 1, 2, 3, 4] [(0, .ref lb), (1, .ref d), (2, .int (nI n)), (3, .long (f_Math_maxJ ((f_Lone_movePrices_L17 H U dem kin hig pri ups dow flo sro sco q1.1 (f_fillJ 6 lp (0 : Int64)) q1.2.1 q1.2.2.1 q1.2.2.2.1 q1.2.2.2.2 k2).1) q4.1)), (5, .int (nI (k2 + 1)))] rfl ?_
    subst eq4
    subst eq3
    exact ih
  obtain ⟨q5, eq5⟩ : ∃ q, q = f_Lone_movePrices_L17 H U dem kin hig pri ups dow flo sro sco q1.1 (f_fillJ 6 lp (0 : Int64)) q1.2.1 q1.2.2.1 q1.2.2.2.1 q1.2.2.2.2 n := ⟨_, rfl⟩
  rw [← eq5]
  rw [← eq5] at hf
  try dsimp only at hf
  have hv_l : isV (ov h lb (lonL lb q5.2.1 q5.2.2.1 q5.2.2.2.1 q5.2.2.2.2.1 q5.2.2.2.2.2)) lb (lonL lb q5.2.1 q5.2.2.1 q5.2.2.2.1 q5.2.2.2.2.1 q5.2.2.2.2.2) := ov_isV
  have hv_d : isV (ov h lb (lonL lb q5.2.1 q5.2.2.1 q5.2.2.2.1 q5.2.2.2.2.1 q5.2.2.2.2.2)) d (dayL d H U res dem kin low hig pri sta ups dow onn ord flo sro sco) := isV_ov dj_d_l (hw_d)
  refine r_iload X 4 dX3_movePrices_17 rfl ?_
  refine r_iload_n X 2 dX3_movePrices_19 rfl ?_
  refine r_icmp_ge X 92 dX3_movePrices_20 rfl (fun _ => ?_) (fun z => absurd z (nI_nlt (a := n) (b := n) (by omega) (by omega)))
  refine r_lload_n X 3 dX3_movePrices_92 rfl ?_
  try subst hf
  exact r_lreturn X Y dX3_movePrices_93 rfl rfl
