theorem down_gt {n y : Nat} (hn : n < 2 ^ 31) (hy : y < 2 ^ 31) (h : nI n < nI y - (1 : Int32)) : 0 < y := by
  rcases Nat.eq_zero_or_pos y with e | e
  · subst e
    exfalso
    rw [Int32.lt_iff_toInt_lt, nI_toInt hn] at h
    have : (nI 0 - (1 : Int32)).toInt = -1 := by decide
    omega
  · exact e
theorem Ret.hyp {G : mG} {n : Nat} {M : mM} {av : List Value} {H h' : mHp} {r : Option Value} {d : Nat} {L : List mC} (hv : isV H d L) (hR : Ret G n M av (ov H d L) r h') : Ret G n M av H r h' := by
  rw [ov_self hv] at hR
  exact hR
theorem ov_step {h h2 : mHp} {d e : Nat} {L K : List mC} (hd : d + L.length ≤ e ∨ e + K.length ≤ d) (hu : ov h d L = h2) : ov (ov h e K) d L = ov h2 e K := by
  rw [← hu]
  exact ov_comm (by omega)

def f_Search_walkBack_L16 (con : Nat → Int32) (cst : Nat → Int32) (sc : Nat → Nat) (sz : Nat → Nat) (wt : Nat → Nat) (tof : Nat → Nat → Int32) (ton : Nat → Nat → Int32) (su : Nat) (ss : Nat) (sk : Nat) (U : Nat) (res : Int32) (dem : Nat → Int32) (hig : Nat → Int32) (pri : Nat → Int32) (ord : Nat → Nat) (flo : Nat → Int32) (sro : Nat → Int32) (sco : Nat → Int32) (n2 : Nat) : Nat → Nat → (Nat → Int64) → (Nat → Nat → Int64) → Nat → Nat → Nat × (Nat → Int64) × (Nat → Nat → Int64) × Nat × Nat
  | 0, y3, cpav, w3v, pbv, psv => (y3, cpav, w3v, pbv, psv)
  | n + 1, y3, cpav, w3v, pbv, psv => (if (nI n2) < (nI y3 - (1 : Int32)) then (lt_ (f_Search_costCombos con cst cpav sk U res dem hig pri ord flo sro sco (y3 - 1)) (fun q2 => (lt_ (f_Search_addParts q2 sc w3v ss pbv) (fun q3 => (lt_ (f_Search_turnAllBack sz wt tof ton q3 pbv psv su ss) (fun q4 => f_Search_walkBack_L16 con cst sc sz wt tof ton su ss sk U res dem hig pri ord flo sro sco n2 n (y3 - 1) q2 q4.1 q4.2.1 q4.2.2)))))) else (y3, cpav, w3v, pbv, psv))
def f_Search_walkBack (con : Nat → Int32) (cst : Nat → Int32) (cpa : Nat → Int64) (sc : Nat → Nat) (sz : Nat → Nat) (wt : Nat → Nat) (tof : Nat → Nat → Int32) (ton : Nat → Nat → Int32) (w3 : Nat → Nat → Int64) (pb : Nat) (ps : Nat) (su : Nat) (ss : Nat) (sk : Nat) (H : Nat) (U : Nat) (res : Int32) (dem : Nat → Int32) (hig : Nat → Int32) (pri : Nat → Int32) (ord : Nat → Nat) (flo : Nat → Int32) (sro : Nat → Int32) (sco : Nat → Int32) (n : Nat) : (Nat → Int64) × (Nat → Nat → Int64) × Nat × Nat := (lt_ (f_Search_fillStates w3 ss (0 : Int64) pb) (fun q1 => (lt_ (f_Search_walkBack_L16 con cst sc sz wt tof ton su ss sk U res dem hig pri ord flo sro sco n (H + 1) H cpa q1 pb ps) (fun q8 => (q8.2.1, q8.2.2.1, q8.2.2.2.1, q8.2.2.2.2)))))
set_option maxRecDepth 20000 in
set_option maxHeartbeats 4000000 in
theorem c_Search_walkBack {G : mG} {h : mHp} {d : Nat} {sb : Nat} {con : Nat → Int32} {cst : Nat → Int32} {cpa : Nat → Int64} {car : Nat → Int64} {sc : Nat → Nat} {sz : Nat → Nat} {wt : Nat → Nat} {tof : Nat → Nat → Int32} {ton : Nat → Nat → Int32} {w3 : Nat → Nat → Int64} {pa : Nat} {pb : Nat} {ps : Nat} {su : Nat} {ss : Nat} {sk : Nat} {H : Nat} {U : Nat} {res : Int32} {dem : Nat → Int32} {kin : Nat → Int32} {low : Nat → Int32} {hig : Nat → Int32} {pri : Nat → Int32} {sta : Nat → Int32} {ups : Nat → Int32} {dow : Nat → Int32} {onn : Nat → Int32} {ord : Nat → Nat} {flo : Nat → Int32} {sro : Nat → Int32} {sco : Nat → Int32} {n : Nat} (hw_d : isV h d (dayL d H U res dem kin low hig pri sta ups dow onn ord flo sro sco)) (dj_d_s : d + 14 ≤ sb ∨ sb + 21 ≤ d) (hpb : pb < 3) (hps : ps < 3) (hss : ss ≤ 1296) (hs0 : 0 < ss) (hsu : su ≤ 4) (hto : ∀ u s, u < su → s < ss → ¬ tof u (s / max (wt u) 1 % max (sz u) 1) = -1000000 → vp_in (nI s + tof u (s / max (wt u) 1 % max (sz u) 1)) 1296) (htn : ∀ u s, u < su → s < ss → ¬ ton u (s / max (wt u) 1 % max (sz u) 1) = -1000000 → vp_in (nI s + ton u (s / max (wt u) 1 % max (sz u) 1)) 1296) (hsz : ∀ u, u < su → sz u ≤ 6 ∧ wt u < 2 ^ 31) (hsc : ∀ j, j < ss → sc j < 81) (hsk : sk ≤ 81) (hU : U ≤ 4) (hH : H ≤ 6) (hO : ∀ j, j < 4 → ord j < 4) (hn : n ≤ 6) : Ret G 2 mX5_walkBack [.ref sb, .ref d, .int (nI n)] (ov h sb (seaL sb con cst cpa car sc sz wt tof ton w3 pa pb ps su ss sk)) none (ov h sb (seaL sb con cst (f_Search_walkBack con cst cpa sc sz wt tof ton w3 pb ps su ss sk H U res dem hig pri ord flo sro sco n).1 car sc sz wt tof ton (f_Search_walkBack con cst cpa sc sz wt tof ton w3 pb ps su ss sk H U res dem hig pri ord flo sro sco n).2.1 pa (f_Search_walkBack con cst cpa sc sz wt tof ton w3 pb ps su ss sk H U res dem hig pri ord flo sro sco n).2.2.1 (f_Search_walkBack con cst cpa sc sz wt tof ton w3 pb ps su ss sk H U res dem hig pri ord flo sro sco n).2.2.2 su ss sk)) := by
  generalize hf : f_Search_walkBack con cst cpa sc sz wt tof ton w3 pb ps su ss sk H U res dem hig pri ord flo sro sco n = R
  unfold f_Search_walkBack at hf
  refine Ret.of [(0, .ref sb), (1, .ref d), (2, .int (nI n))] (by decide) (Nat.le_of_ble_eq_true rfl) rfl ?_
  rintro Z rfl X Y
  have hv_s : isV (ov h sb (seaL sb con cst cpa car sc sz wt tof ton w3 pa pb ps su ss sk)) sb (seaL sb con cst cpa car sc sz wt tof ton w3 pa pb ps su ss sk) := ov_isV
  have hv_d : isV (ov h sb (seaL sb con cst cpa car sc sz wt tof ton w3 pa pb ps su ss sk)) d (dayL d H U res dem kin low hig pri sta ups dow onn ord flo sro sco) := isV_ov dj_d_s (hw_d)
  refine r_aload_n X 0 dX5_walkBack_0 rfl ?_
  refine r_aload_n X 0 dX5_walkBack_1 rfl ?_
  refine gf_X5_45 X dX5_walkBack_2 (hv_s 0 _ rfl) rfl ?_
  refine r_lconst X (0 : Int64) dX5_walkBack_5 (by decide) ?_
  refine cl_X5_109 X (by decide) dX5_walkBack_6 (Nat.le_of_ble_eq_true rfl) (hv_s 0 _ rfl) (c_Search_fillStates  (by first | assumption | omega) (by first | assumption | omega)) ?_
  obtain ⟨q1, eq1⟩ : ∃ q, q = f_Search_fillStates w3 ss (0 : Int64) pb := ⟨_, rfl⟩
  rw [← eq1]
  rw [← eq1] at hf
  rw [lt_eq] at hf
  have hv_s : isV (ov h sb (seaL sb con cst cpa car sc sz wt tof ton q1 pa pb ps su ss sk)) sb (seaL sb con cst cpa car sc sz wt tof ton q1 pa pb ps su ss sk) := ov_isV
  have hv_d : isV (ov h sb (seaL sb con cst cpa car sc sz wt tof ton q1 pa pb ps su ss sk)) d (dayL d H U res dem kin low hig pri sta ups dow onn ord flo sro sco) := isV_ov dj_d_s (hw_d)
  refine r_aload_n X 1 dX5_walkBack_9 rfl ?_
  refine gf_X5_64 X dX5_walkBack_10 (hv_d 0 _ rfl) rfl ?_
  refine r_iconst X (1 : Int32) dX5_walkBack_13 (by decide) ?_
  refine r_isub X dX5_walkBack_14 ?_
  refine r_istore_n [(0, .ref sb), (1, .ref d), (2, .int (nI n)), (3, .int ((nI H) - (1 : Int32)))] X dX5_walkBack_15 rfl (by decide) rfl ?_
  have wl1 : ∀ (n_ : Nat) (y3 : Nat) (cpav : Nat → Int64) (w3v : Nat → Nat → Int64) (pbv : Nat) (psv : Nat), (y3 ≤ H ∧ pbv < 3 ∧ psv < 3) → y3 < n_ → ((((f_Search_walkBack_L16 con cst sc sz wt tof ton su ss sk U res dem hig pri ord flo sro sco n n_ y3 cpav w3v pbv psv).1) ≤ H ∧ ((f_Search_walkBack_L16 con cst sc sz wt tof ton su ss sk U res dem hig pri ord flo sro sco n n_ y3 cpav w3v pbv psv).2.2.2.1) < 3 ∧ ((f_Search_walkBack_L16 con cst sc sz wt tof ton su ss sk U res dem hig pri ord flo sro sco n n_ y3 cpav w3v pbv psv).2.2.2.2) < 3) → SW Z 45 [] [] (ov h sb (seaL sb con cst ((f_Search_walkBack_L16 con cst sc sz wt tof ton su ss sk U res dem hig pri ord flo sro sco n n_ y3 cpav w3v pbv psv).2.1) car sc sz wt tof ton ((f_Search_walkBack_L16 con cst sc sz wt tof ton su ss sk U res dem hig pri ord flo sro sco n n_ y3 cpav w3v pbv psv).2.2.1) pa ((f_Search_walkBack_L16 con cst sc sz wt tof ton su ss sk U res dem hig pri ord flo sro sco n n_ y3 cpav w3v pbv psv).2.2.2.1) ((f_Search_walkBack_L16 con cst sc sz wt tof ton su ss sk U res dem hig pri ord flo sro sco n n_ y3 cpav w3v pbv psv).2.2.2.2) su ss sk))) → SW Z 16 [(0, .ref sb), (1, .ref d), (2, .int (nI n)), (3, .int (nI y3 - (1 : Int32)))] [] (ov h sb (seaL sb con cst cpav car sc sz wt tof ton w3v pa pbv psv su ss sk)) := by
    intro n_
    induction n_ with
    | zero => intro y3 cpav w3v pbv psv _ hm; exact absurd hm (Nat.not_lt_zero _)
    | succ n_ ih =>
      intro y3 cpav w3v pbv psv hi hm K
      generalize hf : f_Search_walkBack_L16 con cst sc sz wt tof ton su ss sk U res dem hig pri ord flo sro sco n (n_ + 1) y3 cpav w3v pbv psv = Rl at K
      rw [f_Search_walkBack_L16] at hf
      have hv_s : isV (ov h sb (seaL sb con cst cpav car sc sz wt tof ton w3v pa pbv psv su ss sk)) sb (seaL sb con cst cpav car sc sz wt tof ton w3v pa pbv psv su ss sk) := ov_isV
      have hv_d : isV (ov h sb (seaL sb con cst cpav car sc sz wt tof ton w3v pa pbv psv su ss sk)) d (dayL d H U res dem kin low hig pri sta ups dow onn ord flo sro sco) := isV_ov dj_d_s (hw_d)
      refine r_iload_n X 3 dX5_walkBack_16 rfl ?_
      refine r_iload_n X 2 dX5_walkBack_17 rfl ?_
      refine r_icmp_le X 45 dX5_walkBack_18 rfl (fun ct => ?_) (fun ct => ?_)
      · rw [if_neg ct] at hf
        refine SW.pick [] [] rfl ?_
        subst hf
        exact K hi
      · rw [if_pos ct] at hf
        have hy := down_gt (by omega) (by omega) ct
        rw [show nI y3 - (1 : Int32) = nI (y3 - 1) from pk_sub (b := 1) (by omega)]
        refine r_aload_n X 0 dX5_walkBack_21 rfl ?_
        refine r_aload_n X 1 dX5_walkBack_22 rfl ?_
        refine r_iload_n X 3 dX5_walkBack_23 rfl ?_
        refine cl_X5_112 X (by decide) dX5_walkBack_24 (Nat.le_of_ble_eq_true rfl) (hv_s 0 _ rfl) (c_Search_costCombos hw_d (by first | assumption | omega) (by first | assumption | omega) (by first | assumption | omega) (by first | assumption | omega) (by first | assumption | omega)) ?_
        obtain ⟨q5, eq5⟩ : ∃ q, q = f_Search_costCombos con cst cpav sk U res dem hig pri ord flo sro sco (y3 - 1) := ⟨_, rfl⟩
        rw [← eq5]
        rw [← eq5] at hf
        rw [lt_eq] at hf
        have hv_s : isV (ov h sb (seaL sb con cst q5 car sc sz wt tof ton w3v pa pbv psv su ss sk)) sb (seaL sb con cst q5 car sc sz wt tof ton w3v pa pbv psv su ss sk) := ov_isV
        have hv_d : isV (ov h sb (seaL sb con cst q5 car sc sz wt tof ton w3v pa pbv psv su ss sk)) d (dayL d H U res dem kin low hig pri sta ups dow onn ord flo sro sco) := isV_ov dj_d_s (hw_d)
        refine r_aload_n X 0 dX5_walkBack_27 rfl ?_
        refine r_aload_n X 0 dX5_walkBack_28 rfl ?_
        refine gf_X5_45 X dX5_walkBack_29 (hv_s 0 _ rfl) rfl ?_
        refine cl_X5_115 X (by decide) dX5_walkBack_32 (Nat.le_of_ble_eq_true rfl) (hv_s 0 _ rfl) (c_Search_addParts  (by first | assumption | omega) (by first | assumption | omega) (by first | assumption | omega)) ?_
        obtain ⟨q6, eq6⟩ : ∃ q, q = f_Search_addParts q5 sc w3v ss pbv := ⟨_, rfl⟩
        rw [← eq6]
        rw [← eq6] at hf
        rw [lt_eq] at hf
        have hv_s : isV (ov h sb (seaL sb con cst q5 car sc sz wt tof ton q6 pa pbv psv su ss sk)) sb (seaL sb con cst q5 car sc sz wt tof ton q6 pa pbv psv su ss sk) := ov_isV
        have hv_d : isV (ov h sb (seaL sb con cst q5 car sc sz wt tof ton q6 pa pbv psv su ss sk)) d (dayL d H U res dem kin low hig pri sta ups dow onn ord flo sro sco) := isV_ov dj_d_s (hw_d)
        refine r_aload_n X 0 dX5_walkBack_35 rfl ?_
        refine cl_X5_119 X (by decide) dX5_walkBack_36 (Nat.le_of_ble_eq_true rfl) (hv_s 0 _ rfl) (c_Search_turnAllBack  (by first | assumption | omega) (by first | assumption | omega) (by first | assumption | omega) (by first | assumption | omega) (by first | assumption | omega) (by first | assumption | omega) (by first | assumption | omega)) ?_
        obtain ⟨q7, eq7⟩ : ∃ q, q = f_Search_turnAllBack sz wt tof ton q6 pbv psv su ss := ⟨_, rfl⟩
        rw [← eq7]
        rw [← eq7] at hf
        rw [lt_eq] at hf
        have hp_q7 : q7.2.1 < 3 ∧ q7.2.2 < 3 := by rw [eq7]; exact turnAllBack_post (by omega) (by omega)
        have hv_s : isV (ov h sb (seaL sb con cst q5 car sc sz wt tof ton q7.1 pa q7.2.1 q7.2.2 su ss sk)) sb (seaL sb con cst q5 car sc sz wt tof ton q7.1 pa q7.2.1 q7.2.2 su ss sk) := ov_isV
        have hv_d : isV (ov h sb (seaL sb con cst q5 car sc sz wt tof ton q7.1 pa q7.2.1 q7.2.2 su ss sk)) d (dayL d H U res dem kin low hig pri sta ups dow onn ord flo sro sco) := isV_ov dj_d_s (hw_d)
        refine r_iinc [(0, .ref sb), (1, .ref d), (2, .int (nI n)), (3, .int (nI (y3 - 1) - (1 : Int32)))] X (nI (y3 - 1) - (1 : Int32)) 3 dX5_walkBack_39 rfl (i32_dec _) (by decide) rfl ?_
        refine r_goto X 16 dX5_walkBack_42 rfl ?_
        exact ih _ _ _ _ _ ⟨by omega, by omega, by omega⟩ (by omega) (by rw [hf]; exact K)
  refine wl1 (H + 1) H cpa q1 pb ps ⟨by omega, hpb, hps⟩ (by omega) (fun hi => ?_)
  obtain ⟨q8, eq8⟩ : ∃ q, q = f_Search_walkBack_L16 con cst sc sz wt tof ton su ss sk U res dem hig pri ord flo sro sco n (H + 1) H cpa q1 pb ps := ⟨_, rfl⟩
  rw [← eq8]
  rw [← eq8] at hf
  rw [lt_eq] at hf
  rw [← eq8] at hi
  have hv_s : isV (ov h sb (seaL sb con cst q8.2.1 car sc sz wt tof ton q8.2.2.1 pa q8.2.2.2.1 q8.2.2.2.2 su ss sk)) sb (seaL sb con cst q8.2.1 car sc sz wt tof ton q8.2.2.1 pa q8.2.2.2.1 q8.2.2.2.2 su ss sk) := ov_isV
  have hv_d : isV (ov h sb (seaL sb con cst q8.2.1 car sc sz wt tof ton q8.2.2.1 pa q8.2.2.2.1 q8.2.2.2.2 su ss sk)) d (dayL d H U res dem kin low hig pri sta ups dow onn ord flo sro sco) := isV_ov dj_d_s (hw_d)
  try subst hf
  exact r_return X Y dX5_walkBack_45 rfl rfl
