theorem layOnly_sz {sc sz : Nat → Nat} {tof ton : Nat → Nat → Int32} {ss sk u ac : Nat} : (f_Search_layOnlyState sc sz tof ton ss sk u ac).2.1 u = 1 := by
  show va_up sz u 1 u = 1
  simp [va_up]
theorem layUnit_sz {sc sz : Nat → Nat} {tof ton : Nat → Nat → Int32} {ss sk u pu pd : Nat} : (f_Search_layUnitStates sc sz tof ton ss sk u pu pd).2.1 u = pd + max pu 2 := by
  show va_up sz u (pd + max pu 2) u = pd + max pu 2
  simp [va_up]
theorem mul_pow6 {s z y : Nat} (h : s ≤ 6 ^ y) (hz : z ≤ 6) : s * z ≤ 6 ^ (y + 1) := by
  rw [Nat.pow_succ]
  exact Nat.mul_le_mul h hz
theorem lay6 {a s y : Nat} (ha : a ≤ 6) (hs : s ≤ 6 ^ y) (h6 : 6 ^ (y + 1) ≤ 1296) : a * s ≤ 1296 := by
  rw [Nat.mul_comm]
  exact Nat.le_trans (mul_pow6 hs ha) h6
theorem pow6_4s {u : Nat} (h : u ≤ 4) : 6 ^ u ≤ 1296 := Nat.pow_le_pow_right (n := 6) (by decide) h
theorem turnAll_post {sz wt : Nat → Nat} {tof ton : Nat → Nat → Int32} {w3 : Nat → Nat → Int64} {pa ps su ss : Nat} (h1 : pa < 3) (h2 : ps < 3) : (f_Search_turnAll sz wt tof ton w3 pa ps su ss).2.1 < 3 ∧ (f_Search_turnAll sz wt tof ton w3 pa ps su ss).2.2 < 3 := turnAll_ps h1 h2 su
theorem turnAllBack_post {sz wt : Nat → Nat} {tof ton : Nat → Nat → Int32} {w3 : Nat → Nat → Int64} {pb ps su ss : Nat} (h1 : pb < 3) (h2 : ps < 3) : (f_Search_turnAllBack sz wt tof ton w3 pb ps su ss).2.1 < 3 ∧ (f_Search_turnAllBack sz wt tof ton w3 pb ps su ss).2.2 < 3 := turnAllBack_ps h1 h2 su

def f_Search_layStates_L27 (su : Nat) (kin : Nat → Int32) (pu : Nat → Nat) (pd : Nat → Nat) (x2 : Int32) : Nat → Nat → (Nat → Nat) → (Nat → Nat) → (Nat → Nat) → (Nat → Nat → Int32) → (Nat → Nat → Int32) → Nat → Nat → Nat × (Nat → Nat) × (Nat → Nat) × (Nat → Nat) × (Nat → Nat → Int32) × (Nat → Nat → Int32) × Nat × Nat
  | 0, y3, scv, szv, wtv, tofv, tonv, ssv, skv => (y3, scv, szv, wtv, tofv, tonv, ssv, skv)
  | n + 1, y3, scv, szv, wtv, tofv, tonv, ssv, skv => (if (nI y3) < (nI su) then (if (nI y3) = x2 then ((fun q3 => f_Search_layStates_L27 su kin pu pd x2 n (y3 + 1) q3.1 q3.2.1 (va_up wtv y3 ssv) q3.2.2.1 q3.2.2.2 (ssv * (q3.2.1 y3)) (skv * 3)) (f_Search_layOnlyState scv szv tofv tonv ssv skv y3 0)) else (if (kin y3) = (5 : Int32) then ((fun q2 => f_Search_layStates_L27 su kin pu pd x2 n (y3 + 1) q2.1 q2.2.1 (va_up wtv y3 ssv) q2.2.2.1 q2.2.2.2 (ssv * (q2.2.1 y3)) (skv * 3)) (f_Search_layOnlyState scv szv tofv tonv ssv skv y3 1)) else ((fun q1 => f_Search_layStates_L27 su kin pu pd x2 n (y3 + 1) q1.1 q1.2.1 (va_up wtv y3 ssv) q1.2.2.1 q1.2.2.2 (ssv * (q1.2.1 y3)) (skv * 3)) (f_Search_layUnitStates scv szv tofv tonv ssv skv y3 (pu y3) (pd y3))))) else (y3, scv, szv, wtv, tofv, tonv, ssv, skv))
def f_Search_layStates (sc : Nat → Nat) (sz : Nat → Nat) (wt : Nat → Nat) (tof : Nat → Nat → Int32) (ton : Nat → Nat → Int32) (U : Nat) (kin : Nat → Int32) (wo : Int32) (pu : Nat → Nat) (pd : Nat → Nat) : (Nat → Nat) × (Nat → Nat) × (Nat → Nat) × (Nat → Nat → Int32) × (Nat → Nat → Int32) × Nat × Nat × Nat := ((fun q7 => (q7.2.1, q7.2.2.1, q7.2.2.2.1, q7.2.2.2.2.1, q7.2.2.2.2.2.1, U, q7.2.2.2.2.2.2.1, q7.2.2.2.2.2.2.2)) (f_Search_layStates_L27 U kin pu pd wo (U + 1) 0 (va_up sc 0 0) sz wt tof ton 1 1))
set_option maxRecDepth 20000 in
set_option maxHeartbeats 4000000 in
theorem c_Search_layStates {G : mG} {h : mHp} {d : Nat} {sb : Nat} {con : Nat → Int32} {cst : Nat → Int32} {cpa : Nat → Int64} {car : Nat → Int64} {sc : Nat → Nat} {sz : Nat → Nat} {wt : Nat → Nat} {tof : Nat → Nat → Int32} {ton : Nat → Nat → Int32} {w3 : Nat → Nat → Int64} {pa : Nat} {pb : Nat} {ps : Nat} {su : Nat} {ss : Nat} {sk : Nat} {H : Nat} {U : Nat} {res : Int32} {dem : Nat → Int32} {kin : Nat → Int32} {low : Nat → Int32} {hig : Nat → Int32} {pri : Nat → Int32} {sta : Nat → Int32} {ups : Nat → Int32} {dow : Nat → Int32} {onn : Nat → Int32} {ord : Nat → Nat} {flo : Nat → Int32} {sro : Nat → Int32} {sco : Nat → Int32} {wo : Int32} {pu : Nat → Nat} {pd : Nat → Nat} (hw_d : isV h d (dayL d H U res dem kin low hig pri sta ups dow onn ord flo sro sco)) (dj_d_s : d + 14 ≤ sb ∨ sb + 21 ≤ d) (hU : U ≤ 4) (hup : ∀ j, j < U → ups j = nI (pu j) ∧ 1 ≤ pu j ∧ pu j ≤ 3) (hdn : ∀ j, j < U → dow j = nI (pd j) ∧ 1 ≤ pd j ∧ pd j ≤ 3) : Ret G 2 mX5_layStates [.ref sb, .ref d, .int wo] (ov h sb (seaL sb con cst cpa car sc sz wt tof ton w3 pa pb ps su ss sk)) none (ov h sb (seaL sb con cst cpa car (f_Search_layStates sc sz wt tof ton U kin wo pu pd).1 (f_Search_layStates sc sz wt tof ton U kin wo pu pd).2.1 (f_Search_layStates sc sz wt tof ton U kin wo pu pd).2.2.1 (f_Search_layStates sc sz wt tof ton U kin wo pu pd).2.2.2.1 (f_Search_layStates sc sz wt tof ton U kin wo pu pd).2.2.2.2.1 w3 pa pb ps (f_Search_layStates sc sz wt tof ton U kin wo pu pd).2.2.2.2.2.1 (f_Search_layStates sc sz wt tof ton U kin wo pu pd).2.2.2.2.2.2.1 (f_Search_layStates sc sz wt tof ton U kin wo pu pd).2.2.2.2.2.2.2)) := by
  generalize hf : f_Search_layStates sc sz wt tof ton U kin wo pu pd = R
  unfold f_Search_layStates at hf
  refine Ret.of [(0, .ref sb), (1, .ref d), (2, .int wo)] (by decide) (Nat.le_of_ble_eq_true rfl) rfl ?_
  rintro Z rfl X Y
  have hv_s : isV (ov h sb (seaL sb con cst cpa car sc sz wt tof ton w3 pa pb ps su ss sk)) sb (seaL sb con cst cpa car sc sz wt tof ton w3 pa pb ps su ss sk) := ov_isV
  have hv_d : isV (ov h sb (seaL sb con cst cpa car sc sz wt tof ton w3 pa pb ps su ss sk)) d (dayL d H U res dem kin low hig pri sta ups dow onn ord flo sro sco) := isV_ov dj_d_s (hw_d)
  refine r_aload_n X 0 dX5_layStates_0 rfl ?_
  refine r_aload_n X 1 dX5_layStates_1 rfl ?_
  refine gf_X5_132 X dX5_layStates_2 (hv_d 0 _ rfl) rfl ?_
  refine pf_X5_125 X dX5_layStates_5 (hv_s 0 _ rfl) (Nat.le_of_ble_eq_true rfl) ?_
  refine SW.heq (h2 := (ov h sb (seaL sb con cst cpa car sc sz wt tof ton w3 pa pb ps U ss sk))) (ov_up 0 (Nat.le_of_ble_eq_true rfl) rfl) ?_
  have hv_s : isV (ov h sb (seaL sb con cst cpa car sc sz wt tof ton w3 pa pb ps U ss sk)) sb (seaL sb con cst cpa car sc sz wt tof ton w3 pa pb ps U ss sk) := ov_isV
  have hv_d : isV (ov h sb (seaL sb con cst cpa car sc sz wt tof ton w3 pa pb ps U ss sk)) d (dayL d H U res dem kin low hig pri sta ups dow onn ord flo sro sco) := isV_ov dj_d_s (hw_d)
  refine r_aload_n X 0 dX5_layStates_8 rfl ?_
  refine r_iconst X (1 : Int32) dX5_layStates_9 (by decide) ?_
  refine pf_X5_75 X dX5_layStates_10 (hv_s 0 _ rfl) (Nat.le_of_ble_eq_true rfl) ?_
  refine SW.heq (h2 := (ov h sb (seaL sb con cst cpa car sc sz wt tof ton w3 pa pb ps U 1 sk))) (ov_up 0 (Nat.le_of_ble_eq_true rfl) rfl) ?_
  have hv_s : isV (ov h sb (seaL sb con cst cpa car sc sz wt tof ton w3 pa pb ps U 1 sk)) sb (seaL sb con cst cpa car sc sz wt tof ton w3 pa pb ps U 1 sk) := ov_isV
  have hv_d : isV (ov h sb (seaL sb con cst cpa car sc sz wt tof ton w3 pa pb ps U 1 sk)) d (dayL d H U res dem kin low hig pri sta ups dow onn ord flo sro sco) := isV_ov dj_d_s (hw_d)
  refine r_aload_n X 0 dX5_layStates_13 rfl ?_
  refine r_iconst X (1 : Int32) dX5_layStates_14 (by decide) ?_
  refine pf_X5_98 X dX5_layStates_15 (hv_s 0 _ rfl) (Nat.le_of_ble_eq_true rfl) ?_
  refine SW.heq (h2 := (ov h sb (seaL sb con cst cpa car sc sz wt tof ton w3 pa pb ps U 1 1))) (ov_up 0 (Nat.le_of_ble_eq_true rfl) rfl) ?_
  have hv_s : isV (ov h sb (seaL sb con cst cpa car sc sz wt tof ton w3 pa pb ps U 1 1)) sb (seaL sb con cst cpa car sc sz wt tof ton w3 pa pb ps U 1 1) := ov_isV
  have hv_d : isV (ov h sb (seaL sb con cst cpa car sc sz wt tof ton w3 pa pb ps U 1 1)) d (dayL d H U res dem kin low hig pri sta ups dow onn ord flo sro sco) := isV_ov dj_d_s (hw_d)
  refine r_aload_n X 0 dX5_layStates_18 rfl ?_
  refine gf_X5_25 X dX5_layStates_19 (hv_s 0 _ rfl) rfl ?_
  refine r_iconst X (0 : Int32) dX5_layStates_22 (by decide) ?_
  refine r_iconst X (0 : Int32) dX5_layStates_23 (by decide) ?_
  refine r_iastn X (k0 := 0) dX5_layStates_24 (hv_s 5 _ rfl) (by omega) (by first | decide | omega) ?_
  refine SW.heq (h2 := (ov h sb (seaL sb con cst cpa car (va_up sc 0 0) sz wt tof ton w3 pa pb ps U 1 1))) (by rw [show upd (fun j => nI (sc j)) 0 (0 : Int32) = _ from updN sc 0 0]; exact ov_up 5 (Nat.le_of_ble_eq_true rfl) rfl) ?_
  have hv_s : isV (ov h sb (seaL sb con cst cpa car (va_up sc 0 0) sz wt tof ton w3 pa pb ps U 1 1)) sb (seaL sb con cst cpa car (va_up sc 0 0) sz wt tof ton w3 pa pb ps U 1 1) := ov_isV
  have hv_d : isV (ov h sb (seaL sb con cst cpa car (va_up sc 0 0) sz wt tof ton w3 pa pb ps U 1 1)) d (dayL d H U res dem kin low hig pri sta ups dow onn ord flo sro sco) := isV_ov dj_d_s (hw_d)
  refine r_iconst X (0 : Int32) dX5_layStates_25 (by decide) ?_
  refine r_istore_n [(0, .ref sb), (1, .ref d), (2, .int wo), (3, .int (0 : Int32))] X dX5_layStates_26 rfl (by decide) rfl ?_
  have wl3 : ∀ (n_ : Nat) (y3 : Nat) (scv : Nat → Nat) (szv : Nat → Nat) (wtv : Nat → Nat) (tofv : Nat → Nat → Int32) (tonv : Nat → Nat → Int32) (ssv : Nat) (skv : Nat), (y3 ≤ U ∧ ssv ≤ 6 ^ y3) → (U - y3) < n_ → ((((f_Search_layStates_L27 U kin pu pd wo n_ y3 scv szv wtv tofv tonv ssv skv).1) ≤ U ∧ ((f_Search_layStates_L27 U kin pu pd wo n_ y3 scv szv wtv tofv tonv ssv skv).2.2.2.2.2.2.1) ≤ 6 ^ ((f_Search_layStates_L27 U kin pu pd wo n_ y3 scv szv wtv tofv tonv ssv skv).1)) → SW Z 126 [] [] (ov h sb (seaL sb con cst cpa car ((f_Search_layStates_L27 U kin pu pd wo n_ y3 scv szv wtv tofv tonv ssv skv).2.1) ((f_Search_layStates_L27 U kin pu pd wo n_ y3 scv szv wtv tofv tonv ssv skv).2.2.1) ((f_Search_layStates_L27 U kin pu pd wo n_ y3 scv szv wtv tofv tonv ssv skv).2.2.2.1) ((f_Search_layStates_L27 U kin pu pd wo n_ y3 scv szv wtv tofv tonv ssv skv).2.2.2.2.1) ((f_Search_layStates_L27 U kin pu pd wo n_ y3 scv szv wtv tofv tonv ssv skv).2.2.2.2.2.1) w3 pa pb ps U ((f_Search_layStates_L27 U kin pu pd wo n_ y3 scv szv wtv tofv tonv ssv skv).2.2.2.2.2.2.1) ((f_Search_layStates_L27 U kin pu pd wo n_ y3 scv szv wtv tofv tonv ssv skv).2.2.2.2.2.2.2)))) → SW Z 27 [(0, .ref sb), (1, .ref d), (2, .int wo), (3, .int (nI y3))] [] (ov h sb (seaL sb con cst cpa car scv szv wtv tofv tonv w3 pa pb ps U ssv skv)) := by
    intro n_
    induction n_ with
    | zero => intro y3 scv szv wtv tofv tonv ssv skv _ hm; exact absurd hm (Nat.not_lt_zero _)
    | succ n_ ih =>
      intro y3 scv szv wtv tofv tonv ssv skv hi hm K
      generalize hf : f_Search_layStates_L27 U kin pu pd wo (n_ + 1) y3 scv szv wtv tofv tonv ssv skv = Rl at K
      rw [f_Search_layStates_L27] at hf
      have hv_s : isV (ov h sb (seaL sb con cst cpa car scv szv wtv tofv tonv w3 pa pb ps U ssv skv)) sb (seaL sb con cst cpa car scv szv wtv tofv tonv w3 pa pb ps U ssv skv) := ov_isV
      have hv_d : isV (ov h sb (seaL sb con cst cpa car scv szv wtv tofv tonv w3 pa pb ps U ssv skv)) d (dayL d H U res dem kin low hig pri sta ups dow onn ord flo sro sco) := isV_ov dj_d_s (hw_d)
      refine r_iload_n X 3 dX5_layStates_27 rfl ?_
      refine r_aload_n X 0 dX5_layStates_28 rfl ?_
      refine gf_X5_125 X dX5_layStates_29 (hv_s 0 _ rfl) rfl ?_
      refine r_icmp_ge X 126 dX5_layStates_32 rfl (fun ct => ?_) (fun ct => ?_)
      · rw [if_neg ct] at hf
        refine SW.pick [] [] rfl ?_
        subst hf
        exact K hi
      · rw [if_pos ct] at hf
        have ht := nI_ltX ct (by omega) (by omega)
        have h6 := pow6_4s (u := y3 + 1) (by omega)
        have h6b := pow6_4s (u := y3) (by omega)
        have hpu := hup y3 (by omega)
        have hpd := hdn y3 (by omega)
        refine r_aload_n X 0 dX5_layStates_35 rfl ?_
        refine gf_X5_31 X dX5_layStates_36 (hv_s 0 _ rfl) rfl ?_
        refine r_iload_n X 3 dX5_layStates_39 rfl ?_
        refine r_aload_n X 0 dX5_layStates_40 rfl ?_
        refine gf_X5_75 X dX5_layStates_41 (hv_s 0 _ rfl) rfl ?_
        refine r_iastn X (k0 := y3) dX5_layStates_44 (hv_s 7 _ rfl) (by omega) (by first | decide | omega) ?_
        refine SW.heq (h2 := (ov h sb (seaL sb con cst cpa car scv szv (va_up wtv y3 ssv) tofv tonv w3 pa pb ps U ssv skv))) (by rw [show upd (fun j => nI (wtv j)) y3 (nI ssv) = _ from updN wtv y3 ssv]; exact ov_up 7 (Nat.le_of_ble_eq_true rfl) rfl) ?_
        have hv_s : isV (ov h sb (seaL sb con cst cpa car scv szv (va_up wtv y3 ssv) tofv tonv w3 pa pb ps U ssv skv)) sb (seaL sb con cst cpa car scv szv (va_up wtv y3 ssv) tofv tonv w3 pa pb ps U ssv skv) := ov_isV
        have hv_d : isV (ov h sb (seaL sb con cst cpa car scv szv (va_up wtv y3 ssv) tofv tonv w3 pa pb ps U ssv skv)) d (dayL d H U res dem kin low hig pri sta ups dow onn ord flo sro sco) := isV_ov dj_d_s (hw_d)
        refine r_iload_n X 3 dX5_layStates_45 rfl ?_
        refine r_iload_n X 2 dX5_layStates_46 rfl ?_
        refine r_icmp_ne X 59 dX5_layStates_47 rfl (fun c4 => ?_) (fun c4 => ?_)
        · rw [if_neg c4] at hf
          refine r_aload_n X 1 dX5_layStates_59 rfl ?_
          refine gf_X5_137 X dX5_layStates_60 (hv_d 0 _ rfl) rfl ?_
          refine r_iload_n X 3 dX5_layStates_63 rfl ?_
          refine r_ialdn X (k0 := y3) dX5_layStates_64 (hv_d 2 _ rfl) (by omega) (by decide) ?_
          refine r_iconst X (5 : Int32) dX5_layStates_65 (by decide) ?_
          refine r_icmp_ne X 78 dX5_layStates_66 rfl (fun c5 => ?_) (fun c5 => ?_)
          · rw [if_neg c5] at hf
            refine r_aload_n X 0 dX5_layStates_78 rfl ?_
            refine r_iload_n X 3 dX5_layStates_79 rfl ?_
            refine r_aload_n X 1 dX5_layStates_80 rfl ?_
            refine gf_X5_140 X dX5_layStates_81 (hv_d 0 _ rfl) rfl ?_
            refine r_iload_n X 3 dX5_layStates_84 rfl ?_
            refine r_ialdv X (v := nI (pu y3)) (k0 := y3) dX5_layStates_85 (hv_d 7 _ rfl) (by omega) (by decide) (hup _ (by omega)).1 ?_
            refine r_aload_n X 1 dX5_layStates_86 rfl ?_
            refine gf_X5_143 X dX5_layStates_87 (hv_d 0 _ rfl) rfl ?_
            refine r_iload_n X 3 dX5_layStates_90 rfl ?_
            refine r_ialdv X (v := nI (pd y3)) (k0 := y3) dX5_layStates_91 (hv_d 8 _ rfl) (by omega) (by decide) (hdn _ (by omega)).1 ?_
            refine cl_X5_146 X (by decide) dX5_layStates_92 (Nat.le_of_ble_eq_true rfl) (hv_s 0 _ rfl) (c_Search_layUnitStates  (by first | assumption | omega) hpu.2 hpd.2 (lay6 (by omega) hi.2 h6)) ?_
            obtain ⟨q4, eq4⟩ : ∃ q, q = f_Search_layUnitStates scv szv tofv tonv ssv skv y3 (pu y3) (pd y3) := ⟨_, rfl⟩
            rw [← eq4]
            rw [← eq4] at hf
            try dsimp only at hf
            have hz_q4 : q4.2.1 y3 = (pd y3) + max (pu y3) 2 := by rw [eq4]; exact layUnit_sz
            have hv_s : isV (ov h sb (seaL sb con cst cpa car q4.1 q4.2.1 (va_up wtv y3 ssv) q4.2.2.1 q4.2.2.2 w3 pa pb ps U ssv skv)) sb (seaL sb con cst cpa car q4.1 q4.2.1 (va_up wtv y3 ssv) q4.2.2.1 q4.2.2.2 w3 pa pb ps U ssv skv) := ov_isV
            have hv_d : isV (ov h sb (seaL sb con cst cpa car q4.1 q4.2.1 (va_up wtv y3 ssv) q4.2.2.1 q4.2.2.2 w3 pa pb ps U ssv skv)) d (dayL d H U res dem kin low hig pri sta ups dow onn ord flo sro sco) := isV_ov dj_d_s (hw_d)
            refine r_aload_n X 0 dX5_layStates_95 rfl ?_
            refine r_dup X dX5_layStates_96 rfl ?_
            refine gf_X5_75 X dX5_layStates_97 (hv_s 0 _ rfl) rfl ?_
            refine r_aload_n X 0 dX5_layStates_100 rfl ?_
            refine gf_X5_28 X dX5_layStates_101 (hv_s 0 _ rfl) rfl ?_
            refine r_iload_n X 3 dX5_layStates_104 rfl ?_
            refine r_ialdn X (k0 := y3) dX5_layStates_105 (hv_s 6 _ rfl) (by omega) (by decide) ?_
            refine r_imuln X (a := ssv) (b := q4.2.1 y3) dX5_layStates_106 ?_
            refine pf_X5_75 X dX5_layStates_107 (hv_s 0 _ rfl) (Nat.le_of_ble_eq_true rfl) ?_
            refine SW.heq (h2 := (ov h sb (seaL sb con cst cpa car q4.1 q4.2.1 (va_up wtv y3 ssv) q4.2.2.1 q4.2.2.2 w3 pa pb ps U (ssv * (q4.2.1 y3)) skv))) (ov_up 0 (Nat.le_of_ble_eq_true rfl) rfl) ?_
            have hv_s : isV (ov h sb (seaL sb con cst cpa car q4.1 q4.2.1 (va_up wtv y3 ssv) q4.2.2.1 q4.2.2.2 w3 pa pb ps U (ssv * (q4.2.1 y3)) skv)) sb (seaL sb con cst cpa car q4.1 q4.2.1 (va_up wtv y3 ssv) q4.2.2.1 q4.2.2.2 w3 pa pb ps U (ssv * (q4.2.1 y3)) skv) := ov_isV
            have hv_d : isV (ov h sb (seaL sb con cst cpa car q4.1 q4.2.1 (va_up wtv y3 ssv) q4.2.2.1 q4.2.2.2 w3 pa pb ps U (ssv * (q4.2.1 y3)) skv)) d (dayL d H U res dem kin low hig pri sta ups dow onn ord flo sro sco) := isV_ov dj_d_s (hw_d)
            refine r_aload_n X 0 dX5_layStates_110 rfl ?_
            refine r_dup X dX5_layStates_111 rfl ?_
            refine gf_X5_98 X dX5_layStates_112 (hv_s 0 _ rfl) rfl ?_
            refine r_iconst X (3 : Int32) dX5_layStates_115 (by decide) ?_
            refine r_imuln X (a := skv) (b := 3) dX5_layStates_116 ?_
            refine pf_X5_98 X dX5_layStates_117 (hv_s 0 _ rfl) (Nat.le_of_ble_eq_true rfl) ?_
            refine SW.heq (h2 := (ov h sb (seaL sb con cst cpa car q4.1 q4.2.1 (va_up wtv y3 ssv) q4.2.2.1 q4.2.2.2 w3 pa pb ps U (ssv * (q4.2.1 y3)) (skv * 3)))) (ov_up 0 (Nat.le_of_ble_eq_true rfl) rfl) ?_
            have hv_s : isV (ov h sb (seaL sb con cst cpa car q4.1 q4.2.1 (va_up wtv y3 ssv) q4.2.2.1 q4.2.2.2 w3 pa pb ps U (ssv * (q4.2.1 y3)) (skv * 3))) sb (seaL sb con cst cpa car q4.1 q4.2.1 (va_up wtv y3 ssv) q4.2.2.1 q4.2.2.2 w3 pa pb ps U (ssv * (q4.2.1 y3)) (skv * 3)) := ov_isV
            have hv_d : isV (ov h sb (seaL sb con cst cpa car q4.1 q4.2.1 (va_up wtv y3 ssv) q4.2.2.1 q4.2.2.2 w3 pa pb ps U (ssv * (q4.2.1 y3)) (skv * 3))) d (dayL d H U res dem kin low hig pri sta ups dow onn ord flo sro sco) := isV_ov dj_d_s (hw_d)
            refine r_iinc [(0, .ref sb), (1, .ref d), (2, .int wo), (3, .int (nI (y3 + 1)))] X (nI (y3 + 1)) 3 dX5_layStates_120 rfl (nI_succ _).symm (by decide) rfl ?_
            refine r_goto X 27 dX5_layStates_123 rfl ?_
            exact ih _ _ _ _ _ _ _ _ ⟨by omega, mul_pow6 hi.2 (by omega)⟩ (by omega) (by rw [hf]; exact K)
          · rw [if_pos c5] at hf
            refine r_aload_n X 0 dX5_layStates_69 rfl ?_
            refine r_iload_n X 3 dX5_layStates_70 rfl ?_
            refine r_iconst X (1 : Int32) dX5_layStates_71 (by decide) ?_
            refine cl_X5_133 X (by decide) dX5_layStates_72 (Nat.le_of_ble_eq_true rfl) (hv_s 0 _ rfl) (c_Search_layOnlyState (ac := 1)  (by first | assumption | omega) (by first | assumption | omega)) ?_
            obtain ⟨q5, eq5⟩ : ∃ q, q = f_Search_layOnlyState scv szv tofv tonv ssv skv y3 1 := ⟨_, rfl⟩
            rw [← eq5]
            rw [← eq5] at hf
            try dsimp only at hf
            have hz_q5 : q5.2.1 y3 = 1 := by rw [eq5]; exact layOnly_sz
            have hv_s : isV (ov h sb (seaL sb con cst cpa car q5.1 q5.2.1 (va_up wtv y3 ssv) q5.2.2.1 q5.2.2.2 w3 pa pb ps U ssv skv)) sb (seaL sb con cst cpa car q5.1 q5.2.1 (va_up wtv y3 ssv) q5.2.2.1 q5.2.2.2 w3 pa pb ps U ssv skv) := ov_isV
            have hv_d : isV (ov h sb (seaL sb con cst cpa car q5.1 q5.2.1 (va_up wtv y3 ssv) q5.2.2.1 q5.2.2.2 w3 pa pb ps U ssv skv)) d (dayL d H U res dem kin low hig pri sta ups dow onn ord flo sro sco) := isV_ov dj_d_s (hw_d)
            refine r_goto X 95 dX5_layStates_75 rfl ?_
            refine r_aload_n X 0 dX5_layStates_95 rfl ?_
            refine r_dup X dX5_layStates_96 rfl ?_
            refine gf_X5_75 X dX5_layStates_97 (hv_s 0 _ rfl) rfl ?_
            refine r_aload_n X 0 dX5_layStates_100 rfl ?_
            refine gf_X5_28 X dX5_layStates_101 (hv_s 0 _ rfl) rfl ?_
            refine r_iload_n X 3 dX5_layStates_104 rfl ?_
            refine r_ialdn X (k0 := y3) dX5_layStates_105 (hv_s 6 _ rfl) (by omega) (by decide) ?_
            refine r_imuln X (a := ssv) (b := q5.2.1 y3) dX5_layStates_106 ?_
            refine pf_X5_75 X dX5_layStates_107 (hv_s 0 _ rfl) (Nat.le_of_ble_eq_true rfl) ?_
            refine SW.heq (h2 := (ov h sb (seaL sb con cst cpa car q5.1 q5.2.1 (va_up wtv y3 ssv) q5.2.2.1 q5.2.2.2 w3 pa pb ps U (ssv * (q5.2.1 y3)) skv))) (ov_up 0 (Nat.le_of_ble_eq_true rfl) rfl) ?_
            have hv_s : isV (ov h sb (seaL sb con cst cpa car q5.1 q5.2.1 (va_up wtv y3 ssv) q5.2.2.1 q5.2.2.2 w3 pa pb ps U (ssv * (q5.2.1 y3)) skv)) sb (seaL sb con cst cpa car q5.1 q5.2.1 (va_up wtv y3 ssv) q5.2.2.1 q5.2.2.2 w3 pa pb ps U (ssv * (q5.2.1 y3)) skv) := ov_isV
            have hv_d : isV (ov h sb (seaL sb con cst cpa car q5.1 q5.2.1 (va_up wtv y3 ssv) q5.2.2.1 q5.2.2.2 w3 pa pb ps U (ssv * (q5.2.1 y3)) skv)) d (dayL d H U res dem kin low hig pri sta ups dow onn ord flo sro sco) := isV_ov dj_d_s (hw_d)
            refine r_aload_n X 0 dX5_layStates_110 rfl ?_
            refine r_dup X dX5_layStates_111 rfl ?_
            refine gf_X5_98 X dX5_layStates_112 (hv_s 0 _ rfl) rfl ?_
            refine r_iconst X (3 : Int32) dX5_layStates_115 (by decide) ?_
            refine r_imuln X (a := skv) (b := 3) dX5_layStates_116 ?_
            refine pf_X5_98 X dX5_layStates_117 (hv_s 0 _ rfl) (Nat.le_of_ble_eq_true rfl) ?_
            refine SW.heq (h2 := (ov h sb (seaL sb con cst cpa car q5.1 q5.2.1 (va_up wtv y3 ssv) q5.2.2.1 q5.2.2.2 w3 pa pb ps U (ssv * (q5.2.1 y3)) (skv * 3)))) (ov_up 0 (Nat.le_of_ble_eq_true rfl) rfl) ?_
            have hv_s : isV (ov h sb (seaL sb con cst cpa car q5.1 q5.2.1 (va_up wtv y3 ssv) q5.2.2.1 q5.2.2.2 w3 pa pb ps U (ssv * (q5.2.1 y3)) (skv * 3))) sb (seaL sb con cst cpa car q5.1 q5.2.1 (va_up wtv y3 ssv) q5.2.2.1 q5.2.2.2 w3 pa pb ps U (ssv * (q5.2.1 y3)) (skv * 3)) := ov_isV
            have hv_d : isV (ov h sb (seaL sb con cst cpa car q5.1 q5.2.1 (va_up wtv y3 ssv) q5.2.2.1 q5.2.2.2 w3 pa pb ps U (ssv * (q5.2.1 y3)) (skv * 3))) d (dayL d H U res dem kin low hig pri sta ups dow onn ord flo sro sco) := isV_ov dj_d_s (hw_d)
            refine r_iinc [(0, .ref sb), (1, .ref d), (2, .int wo), (3, .int (nI (y3 + 1)))] X (nI (y3 + 1)) 3 dX5_layStates_120 rfl (nI_succ _).symm (by decide) rfl ?_
            refine r_goto X 27 dX5_layStates_123 rfl ?_
            exact ih _ _ _ _ _ _ _ _ ⟨by omega, mul_pow6 hi.2 (by omega)⟩ (by omega) (by rw [hf]; exact K)
        · rw [if_pos c4] at hf
          refine r_aload_n X 0 dX5_layStates_50 rfl ?_
          refine r_iload_n X 3 dX5_layStates_51 rfl ?_
          refine r_iconst X (0 : Int32) dX5_layStates_52 (by decide) ?_
          refine cl_X5_133 X (by decide) dX5_layStates_53 (Nat.le_of_ble_eq_true rfl) (hv_s 0 _ rfl) (c_Search_layOnlyState (ac := 0)  (by first | assumption | omega) (by first | assumption | omega)) ?_
          obtain ⟨q6, eq6⟩ : ∃ q, q = f_Search_layOnlyState scv szv tofv tonv ssv skv y3 0 := ⟨_, rfl⟩
          rw [← eq6]
          rw [← eq6] at hf
          try dsimp only at hf
          have hz_q6 : q6.2.1 y3 = 1 := by rw [eq6]; exact layOnly_sz
          have hv_s : isV (ov h sb (seaL sb con cst cpa car q6.1 q6.2.1 (va_up wtv y3 ssv) q6.2.2.1 q6.2.2.2 w3 pa pb ps U ssv skv)) sb (seaL sb con cst cpa car q6.1 q6.2.1 (va_up wtv y3 ssv) q6.2.2.1 q6.2.2.2 w3 pa pb ps U ssv skv) := ov_isV
          have hv_d : isV (ov h sb (seaL sb con cst cpa car q6.1 q6.2.1 (va_up wtv y3 ssv) q6.2.2.1 q6.2.2.2 w3 pa pb ps U ssv skv)) d (dayL d H U res dem kin low hig pri sta ups dow onn ord flo sro sco) := isV_ov dj_d_s (hw_d)
          refine r_goto X 95 dX5_layStates_56 rfl ?_
          refine r_aload_n X 0 dX5_layStates_95 rfl ?_
          refine r_dup X dX5_layStates_96 rfl ?_
          refine gf_X5_75 X dX5_layStates_97 (hv_s 0 _ rfl) rfl ?_
          refine r_aload_n X 0 dX5_layStates_100 rfl ?_
          refine gf_X5_28 X dX5_layStates_101 (hv_s 0 _ rfl) rfl ?_
          refine r_iload_n X 3 dX5_layStates_104 rfl ?_
          refine r_ialdn X (k0 := y3) dX5_layStates_105 (hv_s 6 _ rfl) (by omega) (by decide) ?_
          refine r_imuln X (a := ssv) (b := q6.2.1 y3) dX5_layStates_106 ?_
          refine pf_X5_75 X dX5_layStates_107 (hv_s 0 _ rfl) (Nat.le_of_ble_eq_true rfl) ?_
          refine SW.heq (h2 := (ov h sb (seaL sb con cst cpa car q6.1 q6.2.1 (va_up wtv y3 ssv) q6.2.2.1 q6.2.2.2 w3 pa pb ps U (ssv * (q6.2.1 y3)) skv))) (ov_up 0 (Nat.le_of_ble_eq_true rfl) rfl) ?_
          have hv_s : isV (ov h sb (seaL sb con cst cpa car q6.1 q6.2.1 (va_up wtv y3 ssv) q6.2.2.1 q6.2.2.2 w3 pa pb ps U (ssv * (q6.2.1 y3)) skv)) sb (seaL sb con cst cpa car q6.1 q6.2.1 (va_up wtv y3 ssv) q6.2.2.1 q6.2.2.2 w3 pa pb ps U (ssv * (q6.2.1 y3)) skv) := ov_isV
          have hv_d : isV (ov h sb (seaL sb con cst cpa car q6.1 q6.2.1 (va_up wtv y3 ssv) q6.2.2.1 q6.2.2.2 w3 pa pb ps U (ssv * (q6.2.1 y3)) skv)) d (dayL d H U res dem kin low hig pri sta ups dow onn ord flo sro sco) := isV_ov dj_d_s (hw_d)
          refine r_aload_n X 0 dX5_layStates_110 rfl ?_
          refine r_dup X dX5_layStates_111 rfl ?_
          refine gf_X5_98 X dX5_layStates_112 (hv_s 0 _ rfl) rfl ?_
          refine r_iconst X (3 : Int32) dX5_layStates_115 (by decide) ?_
          refine r_imuln X (a := skv) (b := 3) dX5_layStates_116 ?_
          refine pf_X5_98 X dX5_layStates_117 (hv_s 0 _ rfl) (Nat.le_of_ble_eq_true rfl) ?_
          refine SW.heq (h2 := (ov h sb (seaL sb con cst cpa car q6.1 q6.2.1 (va_up wtv y3 ssv) q6.2.2.1 q6.2.2.2 w3 pa pb ps U (ssv * (q6.2.1 y3)) (skv * 3)))) (ov_up 0 (Nat.le_of_ble_eq_true rfl) rfl) ?_
          have hv_s : isV (ov h sb (seaL sb con cst cpa car q6.1 q6.2.1 (va_up wtv y3 ssv) q6.2.2.1 q6.2.2.2 w3 pa pb ps U (ssv * (q6.2.1 y3)) (skv * 3))) sb (seaL sb con cst cpa car q6.1 q6.2.1 (va_up wtv y3 ssv) q6.2.2.1 q6.2.2.2 w3 pa pb ps U (ssv * (q6.2.1 y3)) (skv * 3)) := ov_isV
          have hv_d : isV (ov h sb (seaL sb con cst cpa car q6.1 q6.2.1 (va_up wtv y3 ssv) q6.2.2.1 q6.2.2.2 w3 pa pb ps U (ssv * (q6.2.1 y3)) (skv * 3))) d (dayL d H U res dem kin low hig pri sta ups dow onn ord flo sro sco) := isV_ov dj_d_s (hw_d)
          refine r_iinc [(0, .ref sb), (1, .ref d), (2, .int wo), (3, .int (nI (y3 + 1)))] X (nI (y3 + 1)) 3 dX5_layStates_120 rfl (nI_succ _).symm (by decide) rfl ?_
          refine r_goto X 27 dX5_layStates_123 rfl ?_
          exact ih _ _ _ _ _ _ _ _ ⟨by omega, mul_pow6 hi.2 (by omega)⟩ (by omega) (by rw [hf]; exact K)
  refine wl3 (U + 1) 0 (va_up sc 0 0) sz wt tof ton 1 1 ⟨by omega, by decide⟩ (by omega) (fun hi => ?_)
  obtain ⟨q7, eq7⟩ : ∃ q, q = f_Search_layStates_L27 U kin pu pd wo (U + 1) 0 (va_up sc 0 0) sz wt tof ton 1 1 := ⟨_, rfl⟩
  rw [← eq7]
  rw [← eq7] at hf
  try dsimp only at hf
  rw [← eq7] at hi
  have hv_s : isV (ov h sb (seaL sb con cst cpa car q7.2.1 q7.2.2.1 q7.2.2.2.1 q7.2.2.2.2.1 q7.2.2.2.2.2.1 w3 pa pb ps U q7.2.2.2.2.2.2.1 q7.2.2.2.2.2.2.2)) sb (seaL sb con cst cpa car q7.2.1 q7.2.2.1 q7.2.2.2.1 q7.2.2.2.2.1 q7.2.2.2.2.2.1 w3 pa pb ps U q7.2.2.2.2.2.2.1 q7.2.2.2.2.2.2.2) := ov_isV
  have hv_d : isV (ov h sb (seaL sb con cst cpa car q7.2.1 q7.2.2.1 q7.2.2.2.1 q7.2.2.2.2.1 q7.2.2.2.2.2.1 w3 pa pb ps U q7.2.2.2.2.2.2.1 q7.2.2.2.2.2.2.2)) d (dayL d H U res dem kin low hig pri sta ups dow onn ord flo sro sco) := isV_ov dj_d_s (hw_d)
  try subst hf
  exact r_return X Y dX5_layStates_126 rfl rfl

def f_Search_walk_L20s (con : Nat → Int32) (cst : Nat → Int32) (sc : Nat → Nat) (sz : Nat → Nat) (wt : Nat → Nat) (tof : Nat → Nat → Int32) (ton : Nat → Nat → Int32) (su : Nat) (ss : Nat) (sk : Nat) (U : Nat) (res : Int32) (dem : Nat → Int32) (hig : Nat → Int32) (pri : Nat → Int32) (ord : Nat → Nat) (flo : Nat → Int32) (sro : Nat → Int32) (sco : Nat → Int32) (k20 : Nat) (cpa : Nat → Int64) (w3 : Nat → Nat → Int64) (pa : Nat) (ps : Nat) : (Nat → Int64) × (Nat → Nat → Int64) × Nat × Nat := ((fun q2 => ((fun q3 => ((fun q4 => (q3, q4, q2.2.1, q2.2.2)) (f_Search_addParts q3 sc q2.1 ss q2.2.1))) (f_Search_costCombos con cst cpa sk U res dem hig pri ord flo sro sco k20))) (f_Search_turnAll sz wt tof ton w3 pa ps su ss))
def f_Search_walk_L20 (con : Nat → Int32) (cst : Nat → Int32) (sc : Nat → Nat) (sz : Nat → Nat) (wt : Nat → Nat) (tof : Nat → Nat → Int32) (ton : Nat → Nat → Int32) (su : Nat) (ss : Nat) (sk : Nat) (U : Nat) (res : Int32) (dem : Nat → Int32) (hig : Nat → Int32) (pri : Nat → Int32) (ord : Nat → Nat) (flo : Nat → Int32) (sro : Nat → Int32) (sco : Nat → Int32) (cpa : Nat → Int64) (w3 : Nat → Nat → Int64) (pa : Nat) (ps : Nat) : Nat → (Nat → Int64) × (Nat → Nat → Int64) × Nat × Nat
  | 0 => (cpa, w3, pa, ps)
  | k20 + 1 => f_Search_walk_L20s con cst sc sz wt tof ton su ss sk U res dem hig pri ord flo sro sco k20 ((f_Search_walk_L20 con cst sc sz wt tof ton su ss sk U res dem hig pri ord flo sro sco cpa w3 pa ps k20).1) ((f_Search_walk_L20 con cst sc sz wt tof ton su ss sk U res dem hig pri ord flo sro sco cpa w3 pa ps k20).2.1) ((f_Search_walk_L20 con cst sc sz wt tof ton su ss sk U res dem hig pri ord flo sro sco cpa w3 pa ps k20).2.2.1) ((f_Search_walk_L20 con cst sc sz wt tof ton su ss sk U res dem hig pri ord flo sro sco cpa w3 pa ps k20).2.2.2)
theorem walk_ps {con : Nat → Int32} {cst : Nat → Int32} {sc : Nat → Nat} {sz : Nat → Nat} {wt : Nat → Nat} {tof : Nat → Nat → Int32} {ton : Nat → Nat → Int32} {su : Nat} {ss : Nat} {sk : Nat} {U : Nat} {res : Int32} {dem : Nat → Int32} {hig : Nat → Int32} {pri : Nat → Int32} {ord : Nat → Nat} {flo : Nat → Int32} {sro : Nat → Int32} {sco : Nat → Int32} {cpa : Nat → Int64} {w3 : Nat → Nat → Int64} {pa : Nat} {ps : Nat} (h1 : pa < 3) (h2 : ps < 3) : ∀ k, (f_Search_walk_L20 con cst sc sz wt tof ton su ss sk U res dem hig pri ord flo sro sco cpa w3 pa ps k).2.2.1 < 3 ∧ (f_Search_walk_L20 con cst sc sz wt tof ton su ss sk U res dem hig pri ord flo sro sco cpa w3 pa ps k).2.2.2 < 3 := by
  intro k
  induction k with
  | zero => exact ⟨h1, h2⟩
  | succ k ih => exact turnAll_post ih.1 ih.2
def f_Search_walk (con : Nat → Int32) (cst : Nat → Int32) (cpa : Nat → Int64) (sc : Nat → Nat) (sz : Nat → Nat) (wt : Nat → Nat) (tof : Nat → Nat → Int32) (ton : Nat → Nat → Int32) (w3 : Nat → Nat → Int64) (pa : Nat) (ps : Nat) (su : Nat) (ss : Nat) (sk : Nat) (U : Nat) (res : Int32) (dem : Nat → Int32) (hig : Nat → Int32) (pri : Nat → Int32) (ord : Nat → Nat) (flo : Nat → Int32) (sro : Nat → Int32) (sco : Nat → Int32) (n : Nat) : (Nat → Int64) × (Nat → Nat → Int64) × Nat × Nat := ((fun q1 => ((fun q8 => (q8.1, q8.2.1, q8.2.2.1, q8.2.2.2)) (f_Search_walk_L20 con cst sc sz wt tof ton su ss sk U res dem hig pri ord flo sro sco cpa (va_up q1 pa (vp_updL (q1 pa) 0 (0 : Int64))) pa ps n))) (f_Search_fillStates w3 ss (1152921504606846976 : Int64) pa))
set_option maxRecDepth 20000 in
set_option maxHeartbeats 4000000 in
theorem c_Search_walk {G : mG} {h : mHp} {d : Nat} {sb : Nat} {con : Nat → Int32} {cst : Nat → Int32} {cpa : Nat → Int64} {car : Nat → Int64} {sc : Nat → Nat} {sz : Nat → Nat} {wt : Nat → Nat} {tof : Nat → Nat → Int32} {ton : Nat → Nat → Int32} {w3 : Nat → Nat → Int64} {pa : Nat} {pb : Nat} {ps : Nat} {su : Nat} {ss : Nat} {sk : Nat} {H : Nat} {U : Nat} {res : Int32} {dem : Nat → Int32} {kin : Nat → Int32} {low : Nat → Int32} {hig : Nat → Int32} {pri : Nat → Int32} {sta : Nat → Int32} {ups : Nat → Int32} {dow : Nat → Int32} {onn : Nat → Int32} {ord : Nat → Nat} {flo : Nat → Int32} {sro : Nat → Int32} {sco : Nat → Int32} {n : Nat} (hw_d : isV h d (dayL d H U res dem kin low hig pri sta ups dow onn ord flo sro sco)) (dj_d_s : d + 14 ≤ sb ∨ sb + 21 ≤ d) (hpa : pa < 3) (hps : ps < 3) (hss : ss ≤ 1296) (hs0 : 0 < ss) (hsu : su ≤ 4) (hto : ∀ u s, u < su → s < ss → ¬ tof u (s / max (wt u) 1 % max (sz u) 1) = -1000000 → vp_in (nI s + tof u (s / max (wt u) 1 % max (sz u) 1)) 1296) (htn : ∀ u s, u < su → s < ss → ¬ ton u (s / max (wt u) 1 % max (sz u) 1) = -1000000 → vp_in (nI s + ton u (s / max (wt u) 1 % max (sz u) 1)) 1296) (hsz : ∀ u, u < su → sz u ≤ 6 ∧ wt u < 2 ^ 31) (hsc : ∀ j, j < ss → sc j < 81) (hsk : sk ≤ 81) (hU : U ≤ 4) (hO : ∀ j, j < 4 → ord j < 4) (hn : n ≤ 6) : Ret G 2 mX5_walk [.ref sb, .ref d, .int (nI n)] (ov h sb (seaL sb con cst cpa car sc sz wt tof ton w3 pa pb ps su ss sk)) none (ov h sb (seaL sb con cst (f_Search_walk con cst cpa sc sz wt tof ton w3 pa ps su ss sk U res dem hig pri ord flo sro sco n).1 car sc sz wt tof ton (f_Search_walk con cst cpa sc sz wt tof ton w3 pa ps su ss sk U res dem hig pri ord flo sro sco n).2.1 (f_Search_walk con cst cpa sc sz wt tof ton w3 pa ps su ss sk U res dem hig pri ord flo sro sco n).2.2.1 pb (f_Search_walk con cst cpa sc sz wt tof ton w3 pa ps su ss sk U res dem hig pri ord flo sro sco n).2.2.2 su ss sk)) := by
  generalize hf : f_Search_walk con cst cpa sc sz wt tof ton w3 pa ps su ss sk U res dem hig pri ord flo sro sco n = R
  unfold f_Search_walk at hf
  refine Ret.of [(0, .ref sb), (1, .ref d), (2, .int (nI n))] (by decide) (Nat.le_of_ble_eq_true rfl) rfl ?_
  rintro Z rfl X Y
  have hv_s : isV (ov h sb (seaL sb con cst cpa car sc sz wt tof ton w3 pa pb ps su ss sk)) sb (seaL sb con cst cpa car sc sz wt tof ton w3 pa pb ps su ss sk) := ov_isV
  have hv_d : isV (ov h sb (seaL sb con cst cpa car sc sz wt tof ton w3 pa pb ps su ss sk)) d (dayL d H U res dem kin low hig pri sta ups dow onn ord flo sro sco) := isV_ov dj_d_s (hw_d)
  refine r_aload_n X 0 dX5_walk_0 rfl ?_
  refine r_aload_n X 0 dX5_walk_1 rfl ?_
  refine gf_X5_42 X dX5_walk_2 (hv_s 0 _ rfl) rfl ?_
  refine r_ldc2 X dX5_walk_5 kk_X5_73 ?_
  refine cl_X5_109 X (by decide) dX5_walk_8 (Nat.le_of_ble_eq_true rfl) (hv_s 0 _ rfl) (c_Search_fillStates  (by first | assumption | omega) (by first | assumption | omega)) ?_
  obtain ⟨q1, eq1⟩ : ∃ q, q = f_Search_fillStates w3 ss (1152921504606846976 : Int64) pa := ⟨_, rfl⟩
  rw [← eq1]
  rw [← eq1] at hf
  try dsimp only at hf
  have hv_s : isV (ov h sb (seaL sb con cst cpa car sc sz wt tof ton q1 pa pb ps su ss sk)) sb (seaL sb con cst cpa car sc sz wt tof ton q1 pa pb ps su ss sk) := ov_isV
  have hv_d : isV (ov h sb (seaL sb con cst cpa car sc sz wt tof ton q1 pa pb ps su ss sk)) d (dayL d H U res dem kin low hig pri sta ups dow onn ord flo sro sco) := isV_ov dj_d_s (hw_d)
  refine r_aload_n X 0 dX5_walk_11 rfl ?_
  refine gf_X5_42 X dX5_walk_12 (hv_s 0 _ rfl) rfl ?_
  refine r_iconst X (0 : Int32) dX5_walk_15 (by decide) ?_
  refine r_lconst X (0 : Int64) dX5_walk_16 (by decide) ?_
  refine r_lastn X (k0 := 0) dX5_walk_17 (hv_s (18 + pa) _ (seaL_w3 (by omega))) (by omega) (by first | decide | omega) ?_
  refine SW.heq (h2 := (ov h sb (seaL sb con cst cpa car sc sz wt tof ton (va_up q1 pa (vp_updL (q1 pa) 0 (0 : Int64))) pa pb ps su ss sk))) (ov_up (18 + pa) (show _ < 21 by omega) (seaL_w3set (by omega))) ?_
  have hv_s : isV (ov h sb (seaL sb con cst cpa car sc sz wt tof ton (va_up q1 pa (vp_updL (q1 pa) 0 (0 : Int64))) pa pb ps su ss sk)) sb (seaL sb con cst cpa car sc sz wt tof ton (va_up q1 pa (vp_updL (q1 pa) 0 (0 : Int64))) pa pb ps su ss sk) := ov_isV
  have hv_d : isV (ov h sb (seaL sb con cst cpa car sc sz wt tof ton (va_up q1 pa (vp_updL (q1 pa) 0 (0 : Int64))) pa pb ps su ss sk)) d (dayL d H U res dem kin low hig pri sta ups dow onn ord flo sro sco) := isV_ov dj_d_s (hw_d)
  refine r_iconst X (0 : Int32) dX5_walk_18 (by decide) ?_
  refine r_istore_n [(0, .ref sb), (1, .ref d), (2, .int (nI n)), (3, .int (0 : Int32))] X dX5_walk_19 rfl (by decide) rfl ?_
  refine loop_up (P := fun k1 => SW Z 20 [(0, .ref sb), (1, .ref d), (2, .int (nI n)), (3, .int (nI k1))] [] (ov h sb (seaL sb con cst ((f_Search_walk_L20 con cst sc sz wt tof ton su ss sk U res dem hig pri ord flo sro sco cpa (va_up q1 pa (vp_updL (q1 pa) 0 (0 : Int64))) pa ps k1).1) car sc sz wt tof ton ((f_Search_walk_L20 con cst sc sz wt tof ton su ss sk U res dem hig pri ord flo sro sco cpa (va_up q1 pa (vp_updL (q1 pa) 0 (0 : Int64))) pa ps k1).2.1) ((f_Search_walk_L20 con cst sc sz wt tof ton su ss sk U res dem hig pri ord flo sro sco cpa (va_up q1 pa (vp_updL (q1 pa) 0 (0 : Int64))) pa ps k1).2.2.1) pb ((f_Search_walk_L20 con cst sc sz wt tof ton su ss sk U res dem hig pri ord flo sro sco cpa (va_up q1 pa (vp_updL (q1 pa) 0 (0 : Int64))) pa ps k1).2.2.2) su ss sk))) n ?_ ?_ 0 (Nat.zero_le _)
  rotate_left
  · intro k1 hk1 ih
    have hv_s : isV (ov h sb (seaL sb con cst ((f_Search_walk_L20 con cst sc sz wt tof ton su ss sk U res dem hig pri ord flo sro sco cpa (va_up q1 pa (vp_updL (q1 pa) 0 (0 : Int64))) pa ps k1).1) car sc sz wt tof ton ((f_Search_walk_L20 con cst sc sz wt tof ton su ss sk U res dem hig pri ord flo sro sco cpa (va_up q1 pa (vp_updL (q1 pa) 0 (0 : Int64))) pa ps k1).2.1) ((f_Search_walk_L20 con cst sc sz wt tof ton su ss sk U res dem hig pri ord flo sro sco cpa (va_up q1 pa (vp_updL (q1 pa) 0 (0 : Int64))) pa ps k1).2.2.1) pb ((f_Search_walk_L20 con cst sc sz wt tof ton su ss sk U res dem hig pri ord flo sro sco cpa (va_up q1 pa (vp_updL (q1 pa) 0 (0 : Int64))) pa ps k1).2.2.2) su ss sk)) sb (seaL sb con cst ((f_Search_walk_L20 con cst sc sz wt tof ton su ss sk U res dem hig pri ord flo sro sco cpa (va_up q1 pa (vp_updL (q1 pa) 0 (0 : Int64))) pa ps k1).1) car sc sz wt tof ton ((f_Search_walk_L20 con cst sc sz wt tof ton su ss sk U res dem hig pri ord flo sro sco cpa (va_up q1 pa (vp_updL (q1 pa) 0 (0 : Int64))) pa ps k1).2.1) ((f_Search_walk_L20 con cst sc sz wt tof ton su ss sk U res dem hig pri ord flo sro sco cpa (va_up q1 pa (vp_updL (q1 pa) 0 (0 : Int64))) pa ps k1).2.2.1) pb ((f_Search_walk_L20 con cst sc sz wt tof ton su ss sk U res dem hig pri ord flo sro sco cpa (va_up q1 pa (vp_updL (q1 pa) 0 (0 : Int64))) pa ps k1).2.2.2) su ss sk) := ov_isV
    have hv_d : isV (ov h sb (seaL sb con cst ((f_Search_walk_L20 con cst sc sz wt tof ton su ss sk U res dem hig pri ord flo sro sco cpa (va_up q1 pa (vp_updL (q1 pa) 0 (0 : Int64))) pa ps k1).1) car sc sz wt tof ton ((f_Search_walk_L20 con cst sc sz wt tof ton su ss sk U res dem hig pri ord flo sro sco cpa (va_up q1 pa (vp_updL (q1 pa) 0 (0 : Int64))) pa ps k1).2.1) ((f_Search_walk_L20 con cst sc sz wt tof ton su ss sk U res dem hig pri ord flo sro sco cpa (va_up q1 pa (vp_updL (q1 pa) 0 (0 : Int64))) pa ps k1).2.2.1) pb ((f_Search_walk_L20 con cst sc sz wt tof ton su ss sk U res dem hig pri ord flo sro sco cpa (va_up q1 pa (vp_updL (q1 pa) 0 (0 : Int64))) pa ps k1).2.2.2) su ss sk)) d (dayL d H U res dem kin low hig pri sta ups dow onn ord flo sro sco) := isV_ov dj_d_s (hw_d)
    have hpk : (f_Search_walk_L20 con cst sc sz wt tof ton su ss sk U res dem hig pri ord flo sro sco cpa (va_up q1 pa (vp_updL (q1 pa) 0 (0 : Int64))) pa ps k1).2.2.1 < 3 ∧ (f_Search_walk_L20 con cst sc sz wt tof ton su ss sk U res dem hig pri ord flo sro sco cpa (va_up q1 pa (vp_updL (q1 pa) 0 (0 : Int64))) pa ps k1).2.2.2 < 3 := walk_ps hpa hps k1
    refine r_iload_n X 3 dX5_walk_20 rfl ?_
    refine r_iload_n X 2 dX5_walk_21 rfl ?_
    refine r_icmp_ge X 49 dX5_walk_22 rfl (fun z => absurd (nI_lt (a := k1) (b := n) (by omega) (by omega)) z) (fun _ => ?_)
    refine r_aload_n X 0 dX5_walk_25 rfl ?_
    refine cl_X5_80 X (by decide) dX5_walk_26 (Nat.le_of_ble_eq_true rfl) (hv_s 0 _ rfl) (c_Search_turnAll  (by first | assumption | omega) (by first | assumption | omega) (by first | assumption | omega) (by first | assumption | omega) (by first | assumption | omega) (by first | assumption | omega) (by first | assumption | omega)) ?_
    obtain ⟨q5, eq5⟩ : ∃ q, q = f_Search_turnAll sz wt tof ton ((f_Search_walk_L20 con cst sc sz wt tof ton su ss sk U res dem hig pri ord flo sro sco cpa (va_up q1 pa (vp_updL (q1 pa) 0 (0 : Int64))) pa ps k1).2.1) ((f_Search_walk_L20 con cst sc sz wt tof ton su ss sk U res dem hig pri ord flo sro sco cpa (va_up q1 pa (vp_updL (q1 pa) 0 (0 : Int64))) pa ps k1).2.2.1) ((f_Search_walk_L20 con cst sc sz wt tof ton su ss sk U res dem hig pri ord flo sro sco cpa (va_up q1 pa (vp_updL (q1 pa) 0 (0 : Int64))) pa ps k1).2.2.2) su ss := ⟨_, rfl⟩
    rw [← eq5]
    have hp_q5 : q5.2.1 < 3 ∧ q5.2.2 < 3 := by rw [eq5]; exact turnAll_post (by omega) (by omega)
    have hv_s : isV (ov h sb (seaL sb con cst ((f_Search_walk_L20 con cst sc sz wt tof ton su ss sk U res dem hig pri ord flo sro sco cpa (va_up q1 pa (vp_updL (q1 pa) 0 (0 : Int64))) pa ps k1).1) car sc sz wt tof ton q5.1 q5.2.1 pb q5.2.2 su ss sk)) sb (seaL sb con cst ((f_Search_walk_L20 con cst sc sz wt tof ton su ss sk U res dem hig pri ord flo sro sco cpa (va_up q1 pa (vp_updL (q1 pa) 0 (0 : Int64))) pa ps k1).1) car sc sz wt tof ton q5.1 q5.2.1 pb q5.2.2 su ss sk) := ov_isV
    have hv_d : isV (ov h sb (seaL sb con cst ((f_Search_walk_L20 con cst sc sz wt tof ton su ss sk U res dem hig pri ord flo sro sco cpa (va_up q1 pa (vp_updL (q1 pa) 0 (0 : Int64))) pa ps k1).1) car sc sz wt tof ton q5.1 q5.2.1 pb q5.2.2 su ss sk)) d (dayL d H U res dem kin low hig pri sta ups dow onn ord flo sro sco) := isV_ov dj_d_s (hw_d)
    refine r_aload_n X 0 dX5_walk_29 rfl ?_
    refine r_aload_n X 1 dX5_walk_30 rfl ?_
    refine r_iload_n X 3 dX5_walk_31 rfl ?_
    refine cl_X5_112 X (by decide) dX5_walk_32 (Nat.le_of_ble_eq_true rfl) (hv_s 0 _ rfl) (c_Search_costCombos hw_d (by first | assumption | omega) (by first | assumption | omega) (by first | assumption | omega) (by first | assumption | omega) (by first | assumption | omega)) ?_
    obtain ⟨q6, eq6⟩ : ∃ q, q = f_Search_costCombos con cst ((f_Search_walk_L20 con cst sc sz wt tof ton su ss sk U res dem hig pri ord flo sro sco cpa (va_up q1 pa (vp_updL (q1 pa) 0 (0 : Int64))) pa ps k1).1) sk U res dem hig pri ord flo sro sco k1 := ⟨_, rfl⟩
    rw [← eq6]
    have hv_s : isV (ov h sb (seaL sb con cst q6 car sc sz wt tof ton q5.1 q5.2.1 pb q5.2.2 su ss sk)) sb (seaL sb con cst q6 car sc sz wt tof ton q5.1 q5.2.1 pb q5.2.2 su ss sk) := ov_isV
    have hv_d : isV (ov h sb (seaL sb con cst q6 car sc sz wt tof ton q5.1 q5.2.1 pb q5.2.2 su ss sk)) d (dayL d H U res dem kin low hig pri sta ups dow onn ord flo sro sco) := isV_ov dj_d_s (hw_d)
    refine r_aload_n X 0 dX5_walk_35 rfl ?_
    refine r_aload_n X 0 dX5_walk_36 rfl ?_
    refine gf_X5_42 X dX5_walk_37 (hv_s 0 _ rfl) rfl ?_
    refine cl_X5_115 X (by decide) dX5_walk_40 (Nat.le_of_ble_eq_true rfl) (hv_s 0 _ rfl) (c_Search_addParts  (by first | assumption | omega) (by first | assumption | omega) (by first | assumption | omega)) ?_
    obtain ⟨q7, eq7⟩ : ∃ q, q = f_Search_addParts q6 sc q5.1 ss q5.2.1 := ⟨_, rfl⟩
    rw [← eq7]
    have hv_s : isV (ov h sb (seaL sb con cst q6 car sc sz wt tof ton q7 q5.2.1 pb q5.2.2 su ss sk)) sb (seaL sb con cst q6 car sc sz wt tof ton q7 q5.2.1 pb q5.2.2 su ss sk) := ov_isV
    have hv_d : isV (ov h sb (seaL sb con cst q6 car sc sz wt tof ton q7 q5.2.1 pb q5.2.2 su ss sk)) d (dayL d H U res dem kin low hig pri sta ups dow onn ord flo sro sco) := isV_ov dj_d_s (hw_d)
    refine r_iinc [(0, .ref sb), (1, .ref d), (2, .int (nI n)), (3, .int (nI (k1 + 1)))] X (nI (k1 + 1)) 3 dX5_walk_43 rfl (nI_succ _).symm (by decide) rfl ?_
    refine r_goto X 20 dX5_walk_46 rfl ?_
    subst eq7
    subst eq6
    subst eq5
    exact ih
  have hpk : (f_Search_walk_L20 con cst sc sz wt tof ton su ss sk U res dem hig pri ord flo sro sco cpa (va_up q1 pa (vp_updL (q1 pa) 0 (0 : Int64))) pa ps n).2.2.1 < 3 ∧ (f_Search_walk_L20 con cst sc sz wt tof ton su ss sk U res dem hig pri ord flo sro sco cpa (va_up q1 pa (vp_updL (q1 pa) 0 (0 : Int64))) pa ps n).2.2.2 < 3 := walk_ps hpa hps n
  obtain ⟨q8, eq8⟩ : ∃ q, q = f_Search_walk_L20 con cst sc sz wt tof ton su ss sk U res dem hig pri ord flo sro sco cpa (va_up q1 pa (vp_updL (q1 pa) 0 (0 : Int64))) pa ps n := ⟨_, rfl⟩
  rw [← eq8]
  rw [← eq8] at hf
  try dsimp only at hf
  have hv_s : isV (ov h sb (seaL sb con cst q8.1 car sc sz wt tof ton q8.2.1 q8.2.2.1 pb q8.2.2.2 su ss sk)) sb (seaL sb con cst q8.1 car sc sz wt tof ton q8.2.1 q8.2.2.1 pb q8.2.2.2 su ss sk) := ov_isV
  have hv_d : isV (ov h sb (seaL sb con cst q8.1 car sc sz wt tof ton q8.2.1 q8.2.2.1 pb q8.2.2.2 su ss sk)) d (dayL d H U res dem kin low hig pri sta ups dow onn ord flo sro sco) := isV_ov dj_d_s (hw_d)
  refine r_iload_n X 3 dX5_walk_20 rfl ?_
  refine r_iload_n X 2 dX5_walk_21 rfl ?_
  refine r_icmp_ge X 49 dX5_walk_22 rfl (fun _ => ?_) (fun z => absurd z (nI_nlt (a := n) (b := n) (by omega) (by omega)))
  try subst hf
  exact r_return X Y dX5_walk_49 rfl rfl
