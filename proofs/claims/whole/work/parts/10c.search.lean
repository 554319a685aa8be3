theorem ls_post {wo : Int32} {kin : Nat → Int32} {pu pd : Nat → Nat} {U : Nat} {sc sz wt : Nat → Nat} {tof ton : Nat → Nat → Int32} {ups dow : Nat → Int32} (hU : U ≤ 4) (hup : ∀ j, j < U → ups j = nI (pu j) ∧ 1 ≤ pu j ∧ pu j ≤ 3) (hdn : ∀ j, j < U → dow j = nI (pd j) ∧ 1 ≤ pd j ∧ pd j ≤ 3) : lsI wo kin pu pd U (f_Search_layStates sc sz wt tof ton U kin wo pu pd).1 (f_Search_layStates sc sz wt tof ton U kin wo pu pd).2.1 (f_Search_layStates sc sz wt tof ton U kin wo pu pd).2.2.1 (f_Search_layStates sc sz wt tof ton U kin wo pu pd).2.2.2.1 (f_Search_layStates sc sz wt tof ton U kin wo pu pd).2.2.2.2.1 (f_Search_layStates sc sz wt tof ton U kin wo pu pd).2.2.2.2.2.2.1 (f_Search_layStates sc sz wt tof ton U kin wo pu pd).2.2.2.2.2.2.2 := by
  obtain ⟨sc', sz', wt', tof', ton', ss', sk', e, h⟩ := ls_spec (wo := wo) (kin := kin) (sc := sc) (sz := sz) (wt := wt) (tof := tof) (ton := ton) hU (fun j hj => (hup j hj).2) (fun j hj => (hdn j hj).2)
  rw [e]
  exact h
theorem pwz_le6 {z : Nat → Nat} : ∀ {U : Nat}, (∀ u, u < U → z u ≤ 6) → pwz z U ≤ 6 ^ U := by
  intro U
  induction U with
  | zero => intro _; exact Nat.le_refl _
  | succ U ih =>
    intro h
    rw [pwz, Nat.pow_succ]
    exact Nat.mul_le_mul (ih (fun u hu => h u (by omega))) (h U (by omega))
theorem scS_lt {z : Nat → Nat} {act : Nat → Nat → Nat} {s : Nat} (ha : ∀ u own, act u own ≤ 2) : ∀ U, scS z act U s < 3 ^ U := by
  intro U
  induction U with
  | zero => exact Nat.zero_lt_one
  | succ U ih =>
    show scS z act U s + act U (digz z s U) * 3 ^ U < 3 ^ (U + 1)
    have h1 : act U (digz z s U) * 3 ^ U ≤ 2 * 3 ^ U := Nat.mul_le_mul_right _ (ha U _)
    rw [Nat.pow_succ]
    omega
theorem uAct_le {md pu pd own : Nat} : uAct md pu pd own ≤ 2 := by unfold uAct; (repeat' split) <;> omega
section LSI
variable {wo : Int32} {kin : Nat → Int32} {pu pd : Nat → Nat} {U : Nat} {sc sz wt : Nat → Nat} {tof ton : Nat → Nat → Int32} {ss sk su : Nat} {ups dow : Nat → Int32}
theorem lsI_ss (h : lsI wo kin pu pd U sc sz wt tof ton ss sk) (hU : U ≤ 4) (hup : ∀ j, j < U → ups j = nI (pu j) ∧ 1 ≤ pu j ∧ pu j ≤ 3) (hdn : ∀ j, j < U → dow j = nI (pd j) ∧ 1 ≤ pd j ∧ pd j ≤ 3) : ss ≤ 1296 := by
  rw [h.2.1]
  exact Nat.le_trans (pwz_le6 (fun u hu => zU_le (hup u hu).2.2 (hdn u hu).2.2)) (pow6_4s hU)
theorem lsI_s0 (h : lsI wo kin pu pd U sc sz wt tof ton ss sk) : 0 < ss := by
  rw [h.2.1]; exact pwz_pos (fun u _ => zU_pos)
theorem lsI_sk (h : lsI wo kin pu pd U sc sz wt tof ton ss sk) (hU : U ≤ 4) : sk ≤ 81 := by
  rw [h.2.2.1]; exact pow3_4 hU
theorem lsI_sc (h : lsI wo kin pu pd U sc sz wt tof ton ss sk) (hU : U ≤ 4) : ∀ j, j < ss → sc j < 81 := fun j hj => by
  rw [h.2.2.2.2 j hj]
  exact Nat.lt_of_lt_of_le (scS_lt (fun u own => uAct_le) U) (pow3_4 hU)
theorem lsI_sz (h : lsI wo kin pu pd U sc sz wt tof ton ss sk) (hsu : su = U) (hU : U ≤ 4) (hup : ∀ j, j < U → ups j = nI (pu j) ∧ 1 ≤ pu j ∧ pu j ≤ 3) (hdn : ∀ j, j < U → dow j = nI (pd j) ∧ 1 ≤ pd j ∧ pd j ≤ 3) : ∀ u, u < su → sz u ≤ 6 ∧ wt u < 2 ^ 31 := fun u hu => by
  subst hsu
  obtain ⟨a, b⟩ := h.1 u hu
  rw [a, b]
  refine ⟨zU_le (hup u hu).2.2 (hdn u hu).2.2, ?_⟩
  have := Nat.le_trans (pwz_le6 (z := zU wo kin pu pd) (U := u) (fun v hv => zU_le (hup v (by omega)).2.2 (hdn v (by omega)).2.2)) (pow6_4s (u := u) (by omega))
  omega
theorem lsI_own (h : lsI wo kin pu pd U sc sz wt tof ton ss sk) {u s : Nat} (hu : u < U) : s / max (wt u) 1 % max (sz u) 1 = digz (zU wo kin pu pd) s u := by
  obtain ⟨a, b⟩ := h.1 u hu
  have h1 : 0 < pwz (zU wo kin pu pd) u := pwz_pos (fun v _ => zU_pos)
  have h2 : 0 < zU wo kin pu pd u := zU_pos
  rw [a, b, Nat.max_eq_left (by omega), Nat.max_eq_left (by omega)]
  rfl
theorem lsI_to (h : lsI wo kin pu pd U sc sz wt tof ton ss sk) (hsu : su = U) (hU : U ≤ 4) (hup : ∀ j, j < U → ups j = nI (pu j) ∧ 1 ≤ pu j ∧ pu j ≤ 3) (hdn : ∀ j, j < U → dow j = nI (pd j) ∧ 1 ≤ pd j ∧ pd j ≤ 3) : ∀ u s, u < su → s < ss → ¬ tof u (s / max (wt u) 1 % max (sz u) 1) = -1000000 → vp_in (nI s + tof u (s / max (wt u) 1 % max (sz u) 1)) 1296 := fun u s hu hs => by
  subst hsu
  rw [lsI_own h hu, (h.2.2.2.1 u (digz (zU wo kin pu pd) s u) hu (digz_lt zU_pos)).1]
  intro hn
  have hss := lsI_ss h hU hup hdn
  cases e : uOff (uMd wo kin u) (pu u) (pd u) (digz (zU wo kin pu pd) s u) with
  | none => rw [e] at hn; exact absurd rfl hn
  | some n =>
    have hlt : n < zU wo kin pu pd u := uOff_lt uMd_lt (hdn u hu).2.1 (show digz (zU wo kin pu pd) s u < zU wo kin pu pd u from digz_lt zU_pos) e
    rw [h.2.1] at hs hss
    rw [mv_eq hu hs]
    have := mv_lt (z := zU wo kin pu pd) (s := s) hu (fun v _ => zU_pos) hlt
    exact vp_in_nI (by omega) (by decide)
theorem lsI_tn (h : lsI wo kin pu pd U sc sz wt tof ton ss sk) (hsu : su = U) (hU : U ≤ 4) (hup : ∀ j, j < U → ups j = nI (pu j) ∧ 1 ≤ pu j ∧ pu j ≤ 3) (hdn : ∀ j, j < U → dow j = nI (pd j) ∧ 1 ≤ pd j ∧ pd j ≤ 3) : ∀ u s, u < su → s < ss → ¬ ton u (s / max (wt u) 1 % max (sz u) 1) = -1000000 → vp_in (nI s + ton u (s / max (wt u) 1 % max (sz u) 1)) 1296 := fun u s hu hs => by
  subst hsu
  rw [lsI_own h hu, (h.2.2.2.1 u (digz (zU wo kin pu pd) s u) hu (digz_lt zU_pos)).2]
  intro hn
  have hss := lsI_ss h hU hup hdn
  cases e : uOn (uMd wo kin u) (pu u) (pd u) (digz (zU wo kin pu pd) s u) with
  | none => rw [e] at hn; exact absurd rfl hn
  | some n =>
    have hlt : n < zU wo kin pu pd u := uOn_lt uMd_lt (show digz (zU wo kin pu pd) s u < zU wo kin pu pd u from digz_lt zU_pos) e
    rw [h.2.1] at hs hss
    rw [mv_eq hu hs]
    have := mv_lt (z := zU wo kin pu pd) (s := s) hu (fun v _ => zU_pos) hlt
    exact vp_in_nI (by omega) (by decide)
end LSI

theorem walk_ps2 {con : Nat → Int32} {cst : Nat → Int32} {cpa : Nat → Int64} {sc : Nat → Nat} {sz : Nat → Nat} {wt : Nat → Nat} {tof : Nat → Nat → Int32} {ton : Nat → Nat → Int32} {w3 : Nat → Nat → Int64} {pa : Nat} {ps : Nat} {su : Nat} {ss : Nat} {sk : Nat} {U : Nat} {res : Int32} {dem : Nat → Int32} {hig : Nat → Int32} {pri : Nat → Int32} {ord : Nat → Nat} {flo : Nat → Int32} {sro : Nat → Int32} {sco : Nat → Int32} {n : Nat} (h1 : pa < 3) (h2 : ps < 3) : (f_Search_walk con cst cpa sc sz wt tof ton w3 pa ps su ss sk U res dem hig pri ord flo sro sco n).2.2.1 < 3 ∧ (f_Search_walk con cst cpa sc sz wt tof ton w3 pa ps su ss sk U res dem hig pri ord flo sro sco n).2.2.2 < 3 := walk_ps h1 h2 n

def f_Search_findBest_L22s (w3 : Nat → Nat → Int64) (pa : Nat) (k22 : Nat) (x3 : Int64) : Int64 := if ((w3 pa) k22) < x3 then (w3 pa) k22 else x3
def f_Search_findBest_L22 (w3 : Nat → Nat → Int64) (pa : Nat) (x3 : Int64) : Nat → Int64
  | 0 => x3
  | k22 + 1 => f_Search_findBest_L22s w3 pa k22 (f_Search_findBest_L22 w3 pa x3 k22)
def f_Search_findBest (con : Nat → Int32) (cst : Nat → Int32) (cpa : Nat → Int64) (sc : Nat → Nat) (sz : Nat → Nat) (wt : Nat → Nat) (tof : Nat → Nat → Int32) (ton : Nat → Nat → Int32) (w3 : Nat → Nat → Int64) (pa : Nat) (ps : Nat) (H : Nat) (U : Nat) (res : Int32) (dem : Nat → Int32) (kin : Nat → Int32) (hig : Nat → Int32) (pri : Nat → Int32) (ord : Nat → Nat) (flo : Nat → Int32) (sro : Nat → Int32) (sco : Nat → Int32) (wo : Int32) (pu : Nat → Nat) (pd : Nat → Nat) : Int64 × (Nat → Int64) × (Nat → Nat) × (Nat → Nat) × (Nat → Nat) × (Nat → Nat → Int32) × (Nat → Nat → Int32) × (Nat → Nat → Int64) × Nat × Nat × Nat × Nat × Nat := (lt_ (f_Search_layStates sc sz wt tof ton U kin wo pu pd) (fun q1 => (lt_ (f_Search_walk con cst cpa q1.1 q1.2.1 q1.2.2.1 q1.2.2.2.1 q1.2.2.2.2.1 w3 pa ps q1.2.2.2.2.2.1 q1.2.2.2.2.2.2.1 q1.2.2.2.2.2.2.2 U res dem hig pri ord flo sro sco H) (fun q2 => (if (f_Search_findBest_L22 q2.2.1 q2.2.2.1 (1152921504606846976 : Int64) q1.2.2.2.2.2.2.1) < (1152921504606846976 : Int64) then (f_Search_findBest_L22 q2.2.1 q2.2.2.1 (1152921504606846976 : Int64) q1.2.2.2.2.2.2.1) else (-1000000 : Int64), q2.1, q1.1, q1.2.1, q1.2.2.1, q1.2.2.2.1, q1.2.2.2.2.1, q2.2.1, q2.2.2.1, q2.2.2.2, q1.2.2.2.2.2.1, q1.2.2.2.2.2.2.1, q1.2.2.2.2.2.2.2)))))
set_option maxRecDepth 20000 in
set_option maxHeartbeats 4000000 in
theorem c_Search_findBest {G : mG} {h : mHp} {d : Nat} {sb : Nat} {con : Nat → Int32} {cst : Nat → Int32} {cpa : Nat → Int64} {car : Nat → Int64} {sc : Nat → Nat} {sz : Nat → Nat} {wt : Nat → Nat} {tof : Nat → Nat → Int32} {ton : Nat → Nat → Int32} {w3 : Nat → Nat → Int64} {pa : Nat} {pb : Nat} {ps : Nat} {su : Nat} {ss : Nat} {sk : Nat} {H : Nat} {U : Nat} {res : Int32} {dem : Nat → Int32} {kin : Nat → Int32} {low : Nat → Int32} {hig : Nat → Int32} {pri : Nat → Int32} {sta : Nat → Int32} {ups : Nat → Int32} {dow : Nat → Int32} {onn : Nat → Int32} {ord : Nat → Nat} {flo : Nat → Int32} {sro : Nat → Int32} {sco : Nat → Int32} {wo : Int32} {pu : Nat → Nat} {pd : Nat → Nat} (hw_d : isV h d (dayL d H U res dem kin low hig pri sta ups dow onn ord flo sro sco)) (dj_d_s : d + 14 ≤ sb ∨ sb + 21 ≤ d) (hpa : pa < 3) (hps : ps < 3) (hU : U ≤ 4) (hH : H ≤ 6) (hup : ∀ j, j < U → ups j = nI (pu j) ∧ 1 ≤ pu j ∧ pu j ≤ 3) (hdn : ∀ j, j < U → dow j = nI (pd j) ∧ 1 ≤ pd j ∧ pd j ≤ 3) (hO : ∀ j, j < 4 → ord j < 4) : Ret G 3 mX5_findBest [.ref sb, .ref d, .int wo] (ov h sb (seaL sb con cst cpa car sc sz wt tof ton w3 pa pb ps su ss sk)) (some (.long (f_Search_findBest con cst cpa sc sz wt tof ton w3 pa ps H U res dem kin hig pri ord flo sro sco wo pu pd).1)) (ov h sb (seaL sb con cst (f_Search_findBest con cst cpa sc sz wt tof ton w3 pa ps H U res dem kin hig pri ord flo sro sco wo pu pd).2.1 car (f_Search_findBest con cst cpa sc sz wt tof ton w3 pa ps H U res dem kin hig pri ord flo sro sco wo pu pd).2.2.1 (f_Search_findBest con cst cpa sc sz wt tof ton w3 pa ps H U res dem kin hig pri ord flo sro sco wo pu pd).2.2.2.1 (f_Search_findBest con cst cpa sc sz wt tof ton w3 pa ps H U res dem kin hig pri ord flo sro sco wo pu pd).2.2.2.2.1 (f_Search_findBest con cst cpa sc sz wt tof ton w3 pa ps H U res dem kin hig pri ord flo sro sco wo pu pd).2.2.2.2.2.1 (f_Search_findBest con cst cpa sc sz wt tof ton w3 pa ps H U res dem kin hig pri ord flo sro sco wo pu pd).2.2.2.2.2.2.1 (f_Search_findBest con cst cpa sc sz wt tof ton w3 pa ps H U res dem kin hig pri ord flo sro sco wo pu pd).2.2.2.2.2.2.2.1 (f_Search_findBest con cst cpa sc sz wt tof ton w3 pa ps H U res dem kin hig pri ord flo sro sco wo pu pd).2.2.2.2.2.2.2.2.1 pb (f_Search_findBest con cst cpa sc sz wt tof ton w3 pa ps H U res dem kin hig pri ord flo sro sco wo pu pd).2.2.2.2.2.2.2.2.2.1 (f_Search_findBest con cst cpa sc sz wt tof ton w3 pa ps H U res dem kin hig pri ord flo sro sco wo pu pd).2.2.2.2.2.2.2.2.2.2.1 (f_Search_findBest con cst cpa sc sz wt tof ton w3 pa ps H U res dem kin hig pri ord flo sro sco wo pu pd).2.2.2.2.2.2.2.2.2.2.2.1 (f_Search_findBest con cst cpa sc sz wt tof ton w3 pa ps H U res dem kin hig pri ord flo sro sco wo pu pd).2.2.2.2.2.2.2.2.2.2.2.2)) := by
  generalize hf : f_Search_findBest con cst cpa sc sz wt tof ton w3 pa ps H U res dem kin hig pri ord flo sro sco wo pu pd = R
  unfold f_Search_findBest at hf
  refine Ret.of [(0, .ref sb), (1, .ref d), (2, .int wo)] (by decide) (Nat.le_of_ble_eq_true rfl) rfl ?_
  rintro Z rfl X Y
  have hv_s : isV (ov h sb (seaL sb con cst cpa car sc sz wt tof ton w3 pa pb ps su ss sk)) sb (seaL sb con cst cpa car sc sz wt tof ton w3 pa pb ps su ss sk) := ov_isV
  have hv_d : isV (ov h sb (seaL sb con cst cpa car sc sz wt tof ton w3 pa pb ps su ss sk)) d (dayL d H U res dem kin low hig pri sta ups dow onn ord flo sro sco) := isV_ov dj_d_s (hw_d)
  refine r_aload_n X 0 dX5_findBest_0 rfl ?_
  refine r_aload_n X 1 dX5_findBest_1 rfl ?_
  refine r_iload_n X 2 dX5_findBest_2 rfl ?_
  refine cl_X5_60 X (by decide) dX5_findBest_3 (Nat.le_of_ble_eq_true rfl) (hv_s 0 _ rfl) (c_Search_layStates hw_d (by first | assumption | omega) (by first | assumption | omega) (by first | assumption | omega) (by first | assumption | omega)) ?_
  obtain ⟨q1, eq1⟩ : ∃ q, q = f_Search_layStates sc sz wt tof ton U kin wo pu pd := ⟨_, rfl⟩
  rw [← eq1]
  rw [← eq1] at hf
  rw [lt_eq] at hf
  have hL_q1 : lsI wo kin pu pd U q1.1 q1.2.1 q1.2.2.1 q1.2.2.2.1 q1.2.2.2.2.1 q1.2.2.2.2.2.2.1 q1.2.2.2.2.2.2.2 := by rw [eq1]; exact ls_post (by assumption) (by assumption) (by assumption)
  have hsu_q1 : q1.2.2.2.2.2.1 = U := by rw [eq1]; exact rfl
  have hv_s : isV (ov h sb (seaL sb con cst cpa car q1.1 q1.2.1 q1.2.2.1 q1.2.2.2.1 q1.2.2.2.2.1 w3 pa pb ps q1.2.2.2.2.2.1 q1.2.2.2.2.2.2.1 q1.2.2.2.2.2.2.2)) sb (seaL sb con cst cpa car q1.1 q1.2.1 q1.2.2.1 q1.2.2.2.1 q1.2.2.2.2.1 w3 pa pb ps q1.2.2.2.2.2.1 q1.2.2.2.2.2.2.1 q1.2.2.2.2.2.2.2) := ov_isV
  have hv_d : isV (ov h sb (seaL sb con cst cpa car q1.1 q1.2.1 q1.2.2.1 q1.2.2.2.1 q1.2.2.2.2.1 w3 pa pb ps q1.2.2.2.2.2.1 q1.2.2.2.2.2.2.1 q1.2.2.2.2.2.2.2)) d (dayL d H U res dem kin low hig pri sta ups dow onn ord flo sro sco) := isV_ov dj_d_s (hw_d)
  refine r_aload_n X 0 dX5_findBest_6 rfl ?_
  refine r_aload_n X 1 dX5_findBest_7 rfl ?_
  refine r_aload_n X 1 dX5_findBest_8 rfl ?_
  refine gf_X5_64 X dX5_findBest_9 (hv_d 0 _ rfl) rfl ?_
  refine cl_X5_70 X (by decide) dX5_findBest_12 (Nat.le_of_ble_eq_true rfl) (hv_s 0 _ rfl) (c_Search_walk hw_d (by first | assumption | omega) (by first | assumption | omega) (by first | assumption | omega) (lsI_ss hL_q1 hU hup hdn) (lsI_s0 hL_q1) (by rw [hsu_q1]; exact hU) (lsI_to hL_q1 hsu_q1 hU hup hdn) (lsI_tn hL_q1 hsu_q1 hU hup hdn) (lsI_sz hL_q1 hsu_q1 hU hup hdn) (lsI_sc hL_q1 hU) (lsI_sk hL_q1 hU) (by first | assumption | omega) (by first | assumption | omega) (by first | assumption | omega)) ?_
  obtain ⟨q2, eq2⟩ : ∃ q, q = f_Search_walk con cst cpa q1.1 q1.2.1 q1.2.2.1 q1.2.2.2.1 q1.2.2.2.2.1 w3 pa ps q1.2.2.2.2.2.1 q1.2.2.2.2.2.2.1 q1.2.2.2.2.2.2.2 U res dem hig pri ord flo sro sco H := ⟨_, rfl⟩
  rw [← eq2]
  rw [← eq2] at hf
  rw [lt_eq] at hf
  have hp_q2 : q2.2.2.1 < 3 ∧ q2.2.2.2 < 3 := by rw [eq2]; exact walk_ps2 (by omega) (by omega)
  have hv_s : isV (ov h sb (seaL sb con cst q2.1 car q1.1 q1.2.1 q1.2.2.1 q1.2.2.2.1 q1.2.2.2.2.1 q2.2.1 q2.2.2.1 pb q2.2.2.2 q1.2.2.2.2.2.1 q1.2.2.2.2.2.2.1 q1.2.2.2.2.2.2.2)) sb (seaL sb con cst q2.1 car q1.1 q1.2.1 q1.2.2.1 q1.2.2.2.1 q1.2.2.2.2.1 q2.2.1 q2.2.2.1 pb q2.2.2.2 q1.2.2.2.2.2.1 q1.2.2.2.2.2.2.1 q1.2.2.2.2.2.2.2) := ov_isV
  have hv_d : isV (ov h sb (seaL sb con cst q2.1 car q1.1 q1.2.1 q1.2.2.1 q1.2.2.2.1 q1.2.2.2.2.1 q2.2.1 q2.2.2.1 pb q2.2.2.2 q1.2.2.2.2.2.1 q1.2.2.2.2.2.2.1 q1.2.2.2.2.2.2.2)) d (dayL d H U res dem kin low hig pri sta ups dow onn ord flo sro sco) := isV_ov dj_d_s (hw_d)
  have hs6 := lsI_ss hL_q1 hU hup hdn
  refine r_ldc2 X dX5_findBest_15 kk_X5_73 ?_
  refine r_lstore_n [(0, .ref sb), (1, .ref d), (2, .int wo), (3, .long (1152921504606846976 : Int64))] X dX5_findBest_18 rfl (by decide) rfl ?_
  refine r_iconst X (0 : Int32) dX5_findBest_19 (by decide) ?_
  refine r_istore [(0, .ref sb), (1, .ref d), (2, .int wo), (3, .long (1152921504606846976 : Int64)), (5, .int (0 : Int32))] X dX5_findBest_20 (by decide) rfl ?_
  refine SW.pick [0, 3, 4] [(0, .ref sb), (3, .long (1152921504606846976 : Int64)), (5, .int (0 : Int32))] rfl ?_
  refine loop_up (P := fun k2 => SW Z 22 [(0, .ref sb), (3, .long (f_Search_findBest_L22 q2.2.1 q2.2.2.1 (1152921504606846976 : Int64) k2)), (5, .int (nI k2))] [] (ov h sb (seaL sb con cst q2.1 car q1.1 q1.2.1 q1.2.2.1 q1.2.2.2.1 q1.2.2.2.2.1 q2.2.1 q2.2.2.1 pb q2.2.2.2 q1.2.2.2.2.2.1 q1.2.2.2.2.2.2.1 q1.2.2.2.2.2.2.2))) q1.2.2.2.2.2.2.1 ?_ ?_ 0 (Nat.zero_le _)
  rotate_left
  · intro k2 hk2 ih
    have hv_s : isV (ov h sb (seaL sb con cst q2.1 car q1.1 q1.2.1 q1.2.2.1 q1.2.2.2.1 q1.2.2.2.2.1 q2.2.1 q2.2.2.1 pb q2.2.2.2 q1.2.2.2.2.2.1 q1.2.2.2.2.2.2.1 q1.2.2.2.2.2.2.2)) sb (seaL sb con cst q2.1 car q1.1 q1.2.1 q1.2.2.1 q1.2.2.2.1 q1.2.2.2.2.1 q2.2.1 q2.2.2.1 pb q2.2.2.2 q1.2.2.2.2.2.1 q1.2.2.2.2.2.2.1 q1.2.2.2.2.2.2.2) := ov_isV
    have hv_d : isV (ov h sb (seaL sb con cst q2.1 car q1.1 q1.2.1 q1.2.2.1 q1.2.2.2.1 q1.2.2.2.2.1 q2.2.1 q2.2.2.1 pb q2.2.2.2 q1.2.2.2.2.2.1 q1.2.2.2.2.2.2.1 q1.2.2.2.2.2.2.2)) d (dayL d H U res dem kin low hig pri sta ups dow onn ord flo sro sco) := isV_ov dj_d_s (hw_d)
    refine r_iload X 2 dX5_findBest_22 rfl ?_
    refine r_aload_n X 0 dX5_findBest_24 rfl ?_
    refine gf_X5_75 X dX5_findBest_25 (hv_s 0 _ rfl) rfl ?_
    refine r_icmp_ge X 57 dX5_findBest_28 rfl (fun z => absurd (nI_lt (a := k2) (b := q1.2.2.2.2.2.2.1) (by omega) (by omega)) z) (fun _ => ?_)
    refine r_aload_n X 0 dX5_findBest_31 rfl ?_
    refine gf_X5_42 X dX5_findBest_32 (hv_s 0 _ rfl) rfl ?_
    refine r_iload X 2 dX5_findBest_35 rfl ?_
    refine r_laldn X (k0 := k2) dX5_findBest_37 (hv_s (18 + q2.2.2.1) _ (seaL_w3 (by omega))) (by omega) (by decide) ?_
    refine r_lload_n X 1 dX5_findBest_38 rfl ?_
    refine m_join (P := SW Z 51 [(0, .ref sb), (3, .long (if ((q2.2.1 q2.2.2.1) k2) < (f_Search_findBest_L22 q2.2.1 q2.2.2.1 (1152921504606846976 : Int64) k2) then (q2.2.1 q2.2.2.1) k2 else (f_Search_findBest_L22 q2.2.1 q2.2.2.1 (1152921504606846976 : Int64) k2))), (5, .int (nI k2))] [] (ov h sb (seaL sb con cst q2.1 car q1.1 q1.2.1 q1.2.2.1 q1.2.2.2.1 q1.2.2.2.2.1 q2.2.1 q2.2.2.1 pb q2.2.2.2 q1.2.2.2.2.2.1 q1.2.2.2.2.2.2.1 q1.2.2.2.2.2.2.2))) (fun K => ?_) ?_
    · refine r_lcmp_ge X 51 dX5_findBest_39 dX5_findBest_40 rfl (fun c3 => ?_) (fun c3 => ?_)
      · skip
        try simp only [if_neg c3] at K ⊢
        exact K
      · skip
        refine r_aload_n X 0 dX5_findBest_43 rfl ?_
        refine gf_X5_42 X dX5_findBest_44 (hv_s 0 _ rfl) rfl ?_
        refine r_iload X 2 dX5_findBest_47 rfl ?_
        refine r_laldn X (k0 := k2) dX5_findBest_49 (hv_s (18 + q2.2.2.1) _ (seaL_w3 (by omega))) (by omega) (by decide) ?_
        refine r_lstore_n [(0, .ref sb), (3, .long ((q2.2.1 q2.2.2.1) k2)), (5, .int (nI k2))] X dX5_findBest_50 rfl (by decide) rfl ?_
        try simp only [if_pos c3] at K ⊢
        exact K
    have hv_s : isV (ov h sb (seaL sb con cst q2.1 car q1.1 q1.2.1 q1.2.2.1 q1.2.2.2.1 q1.2.2.2.2.1 q2.2.1 q2.2.2.1 pb q2.2.2.2 q1.2.2.2.2.2.1 q1.2.2.2.2.2.2.1 q1.2.2.2.2.2.2.2)) sb (seaL sb con cst q2.1 car q1.1 q1.2.1 q1.2.2.1 q1.2.2.2.1 q1.2.2.2.2.1 q2.2.1 q2.2.2.1 pb q2.2.2.2 q1.2.2.2.2.2.1 q1.2.2.2.2.2.2.1 q1.2.2.2.2.2.2.2) := ov_isV
    have hv_d : isV (ov h sb (seaL sb con cst q2.1 car q1.1 q1.2.1 q1.2.2.1 q1.2.2.2.1 q1.2.2.2.2.1 q2.2.1 q2.2.2.1 pb q2.2.2.2 q1.2.2.2.2.2.1 q1.2.2.2.2.2.2.1 q1.2.2.2.2.2.2.2)) d (dayL d H U res dem kin low hig pri sta ups dow onn ord flo sro sco) := isV_ov dj_d_s (hw_d)
    refine r_iinc [(0, .ref sb), (3, .long (if ((q2.2.1 q2.2.2.1) k2) < (f_Search_findBest_L22 q2.2.1 q2.2.2.1 (1152921504606846976 : Int64) k2) then (q2.2.1 q2.2.2.1) k2 else (f_Search_findBest_L22 q2.2.1 q2.2.2.1 (1152921504606846976 : Int64) k2))), (5, .int (nI (k2 + 1)))] X (nI (k2 + 1)) 2 dX5_findBest_51 rfl (nI_succ _).symm (by decide) rfl ?_
    refine r_goto X 22 dX5_findBest_54 rfl ?_
    exact ih
  have hv_s : isV (ov h sb (seaL sb con cst q2.1 car q1.1 q1.2.1 q1.2.2.1 q1.2.2.2.1 q1.2.2.2.2.1 q2.2.1 q2.2.2.1 pb q2.2.2.2 q1.2.2.2.2.2.1 q1.2.2.2.2.2.2.1 q1.2.2.2.2.2.2.2)) sb (seaL sb con cst q2.1 car q1.1 q1.2.1 q1.2.2.1 q1.2.2.2.1 q1.2.2.2.2.1 q2.2.1 q2.2.2.1 pb q2.2.2.2 q1.2.2.2.2.2.1 q1.2.2.2.2.2.2.1 q1.2.2.2.2.2.2.2) := ov_isV
  have hv_d : isV (ov h sb (seaL sb con cst q2.1 car q1.1 q1.2.1 q1.2.2.1 q1.2.2.2.1 q1.2.2.2.2.1 q2.2.1 q2.2.2.1 pb q2.2.2.2 q1.2.2.2.2.2.1 q1.2.2.2.2.2.2.1 q1.2.2.2.2.2.2.2)) d (dayL d H U res dem kin low hig pri sta ups dow onn ord flo sro sco) := isV_ov dj_d_s (hw_d)
  refine r_iload X 2 dX5_findBest_22 rfl ?_
  refine r_aload_n X 0 dX5_findBest_24 rfl ?_
  refine gf_X5_75 X dX5_findBest_25 (hv_s 0 _ rfl) rfl ?_
  refine r_icmp_ge X 57 dX5_findBest_28 rfl (fun _ => ?_) (fun z => absurd z (nI_nlt (a := q1.2.2.2.2.2.2.1) (b := q1.2.2.2.2.2.2.1) (by omega) (by omega)))
  refine r_lload_n X 1 dX5_findBest_57 rfl ?_
  refine r_ldc2 X dX5_findBest_58 kk_X5_73 ?_
  refine m_join (P := SW Z 72 [] [.long (if (f_Search_findBest_L22 q2.2.1 q2.2.2.1 (1152921504606846976 : Int64) q1.2.2.2.2.2.2.1) < (1152921504606846976 : Int64) then (f_Search_findBest_L22 q2.2.1 q2.2.2.1 (1152921504606846976 : Int64) q1.2.2.2.2.2.2.1) else (-1000000 : Int64))] (ov h sb (seaL sb con cst q2.1 car q1.1 q1.2.1 q1.2.2.1 q1.2.2.2.1 q1.2.2.2.2.1 q2.2.1 q2.2.2.1 pb q2.2.2.2 q1.2.2.2.2.2.1 q1.2.2.2.2.2.2.1 q1.2.2.2.2.2.2.2))) (fun K => ?_) ?_
  · refine r_lcmp_ge X 69 dX5_findBest_61 dX5_findBest_62 rfl (fun c4 => ?_) (fun c4 => ?_)
    · skip
      refine r_ldc2 X dX5_findBest_69 kk_X5_78 ?_
      refine SW.pick [] [] rfl ?_
      try simp only [if_neg c4] at K ⊢
      exact K
    · skip
      refine r_lload_n X 1 dX5_findBest_65 rfl ?_
      refine r_goto X 72 dX5_findBest_66 rfl ?_
      refine SW.pick [] [] rfl ?_
      try simp only [if_pos c4] at K ⊢
      exact K
  have hv_s : isV (ov h sb (seaL sb con cst q2.1 car q1.1 q1.2.1 q1.2.2.1 q1.2.2.2.1 q1.2.2.2.2.1 q2.2.1 q2.2.2.1 pb q2.2.2.2 q1.2.2.2.2.2.1 q1.2.2.2.2.2.2.1 q1.2.2.2.2.2.2.2)) sb (seaL sb con cst q2.1 car q1.1 q1.2.1 q1.2.2.1 q1.2.2.2.1 q1.2.2.2.2.1 q2.2.1 q2.2.2.1 pb q2.2.2.2 q1.2.2.2.2.2.1 q1.2.2.2.2.2.2.1 q1.2.2.2.2.2.2.2) := ov_isV
  have hv_d : isV (ov h sb (seaL sb con cst q2.1 car q1.1 q1.2.1 q1.2.2.1 q1.2.2.2.1 q1.2.2.2.2.1 q2.2.1 q2.2.2.1 pb q2.2.2.2 q1.2.2.2.2.2.1 q1.2.2.2.2.2.2.1 q1.2.2.2.2.2.2.2)) d (dayL d H U res dem kin low hig pri sta ups dow onn ord flo sro sco) := isV_ov dj_d_s (hw_d)
  try subst hf
  exact r_lreturn X Y dX5_findBest_72 rfl rfl

theorem walkBack_L {con : Nat → Int32} {cst : Nat → Int32} {sc : Nat → Nat} {sz : Nat → Nat} {wt : Nat → Nat} {tof : Nat → Nat → Int32} {ton : Nat → Nat → Int32} {su : Nat} {ss : Nat} {sk : Nat} {U : Nat} {res : Int32} {dem : Nat → Int32} {hig : Nat → Int32} {pri : Nat → Int32} {ord : Nat → Nat} {flo : Nat → Int32} {sro : Nat → Int32} {sco : Nat → Int32} {n : Nat} : ∀ (m y : Nat) (cpa : Nat → Int64) (w3 : Nat → Nat → Int64) (pb ps : Nat), pb < 3 → ps < 3 → (f_Search_walkBack_L16 con cst sc sz wt tof ton su ss sk U res dem hig pri ord flo sro sco n m y cpa w3 pb ps).2.2.2.1 < 3 ∧ (f_Search_walkBack_L16 con cst sc sz wt tof ton su ss sk U res dem hig pri ord flo sro sco n m y cpa w3 pb ps).2.2.2.2 < 3 := by
  intro m
  induction m with
  | zero => intro y cpa w3 pb ps h1 h2; exact ⟨h1, h2⟩
  | succ m ih =>
    intro y cpa w3 pb ps h1 h2
    rw [f_Search_walkBack_L16]
    by_cases c : nI n < nI y - (1 : Int32)
    · rw [if_pos c, lt_eq, lt_eq, lt_eq]
      have h := turnAllBack_post (sz := sz) (wt := wt) (tof := tof) (ton := ton) (w3 := f_Search_addParts (f_Search_costCombos con cst cpa sk U res dem hig pri ord flo sro sco (y - 1)) sc w3 ss pb) (su := su) (ss := ss) h1 h2
      exact ih _ _ _ _ _ h.1 h.2
    · rw [if_neg c]; exact ⟨h1, h2⟩
theorem walkBack_ps {con : Nat → Int32} {cst : Nat → Int32} {cpa : Nat → Int64} {sc : Nat → Nat} {sz : Nat → Nat} {wt : Nat → Nat} {tof : Nat → Nat → Int32} {ton : Nat → Nat → Int32} {w3 : Nat → Nat → Int64} {pb : Nat} {ps : Nat} {su : Nat} {ss : Nat} {sk : Nat} {H : Nat} {U : Nat} {res : Int32} {dem : Nat → Int32} {hig : Nat → Int32} {pri : Nat → Int32} {ord : Nat → Nat} {flo : Nat → Int32} {sro : Nat → Int32} {sco : Nat → Int32} {n : Nat} (h1 : pb < 3) (h2 : ps < 3) : (f_Search_walkBack con cst cpa sc sz wt tof ton w3 pb ps su ss sk H U res dem hig pri ord flo sro sco n).2.2.1 < 3 ∧ (f_Search_walkBack con cst cpa sc sz wt tof ton w3 pb ps su ss sk H U res dem hig pri ord flo sro sco n).2.2.2 < 3 := by
  unfold f_Search_walkBack
  rw [lt_eq, lt_eq]
  exact walkBack_L _ _ _ _ _ _ h1 h2

def f_Search_lookAround_L34s (sc : Nat → Nat) (w3 : Nat → Nat → Int64) (pa : Nat) (pb : Nat) (k34 : Nat) (car : Nat → Int64) : (Nat → Int64) := vp_updL car (sc k34) (f_Math_minJ (car (sc k34)) (((w3 pa) k34) + ((w3 pb) k34)))
def f_Search_lookAround_L34 (sc : Nat → Nat) (w3 : Nat → Nat → Int64) (pa : Nat) (pb : Nat) (car : Nat → Int64) : Nat → (Nat → Int64)
  | 0 => car
  | k34 + 1 => f_Search_lookAround_L34s sc w3 pa pb k34 (f_Search_lookAround_L34 sc w3 pa pb car k34)
def f_Search_lookAround (con : Nat → Int32) (cst : Nat → Int32) (cpa : Nat → Int64) (car : Nat → Int64) (sc : Nat → Nat) (sz : Nat → Nat) (wt : Nat → Nat) (tof : Nat → Nat → Int32) (ton : Nat → Nat → Int32) (w3 : Nat → Nat → Int64) (pa : Nat) (pb : Nat) (ps : Nat) (H : Nat) (U : Nat) (res : Int32) (dem : Nat → Int32) (kin : Nat → Int32) (hig : Nat → Int32) (pri : Nat → Int32) (ord : Nat → Nat) (flo : Nat → Int32) (sro : Nat → Int32) (sco : Nat → Int32) (n : Nat) (pu : Nat → Nat) (pd : Nat → Nat) : (Nat → Int64) × (Nat → Int64) × (Nat → Nat) × (Nat → Nat) × (Nat → Nat) × (Nat → Nat → Int32) × (Nat → Nat → Int32) × (Nat → Nat → Int64) × Nat × Nat × Nat × Nat × Nat × Nat := (lt_ (f_Search_layStates sc sz wt tof ton U kin (-1 : Int32) pu pd) (fun q1 => (lt_ (f_Search_walk con cst cpa q1.1 q1.2.1 q1.2.2.1 q1.2.2.2.1 q1.2.2.2.2.1 w3 pa ps q1.2.2.2.2.2.1 q1.2.2.2.2.2.2.1 q1.2.2.2.2.2.2.2 U res dem hig pri ord flo sro sco n) (fun q2 => (lt_ (f_Search_turnAll q1.2.1 q1.2.2.1 q1.2.2.2.1 q1.2.2.2.2.1 q2.2.1 q2.2.2.1 q2.2.2.2 q1.2.2.2.2.2.1 q1.2.2.2.2.2.2.1) (fun q3 => (lt_ (f_Search_walkBack con cst q2.1 q1.1 q1.2.1 q1.2.2.1 q1.2.2.2.1 q1.2.2.2.2.1 q3.1 pb q3.2.2 q1.2.2.2.2.2.1 q1.2.2.2.2.2.2.1 q1.2.2.2.2.2.2.2 H U res dem hig pri ord flo sro sco n) (fun q4 => (q4.1, (f_Search_lookAround_L34 q1.1 q4.2.1 q3.2.1 q4.2.2.1 (f_fillJ 81 car (1152921504606846976 : Int64)) q1.2.2.2.2.2.2.1), q1.1, q1.2.1, q1.2.2.1, q1.2.2.2.1, q1.2.2.2.2.1, q4.2.1, q3.2.1, q4.2.2.1, q4.2.2.2, q1.2.2.2.2.2.1, q1.2.2.2.2.2.2.1, q1.2.2.2.2.2.2.2)))))))))
set_option maxRecDepth 20000 in
set_option maxHeartbeats 4000000 in
theorem c_Search_lookAround {G : mG} {h : mHp} {d : Nat} {sb : Nat} {con : Nat → Int32} {cst : Nat → Int32} {cpa : Nat → Int64} {car : Nat → Int64} {sc : Nat → Nat} {sz : Nat → Nat} {wt : Nat → Nat} {tof : Nat → Nat → Int32} {ton : Nat → Nat → Int32} {w3 : Nat → Nat → Int64} {pa : Nat} {pb : Nat} {ps : Nat} {su : Nat} {ss : Nat} {sk : Nat} {H : Nat} {U : Nat} {res : Int32} {dem : Nat → Int32} {kin : Nat → Int32} {low : Nat → Int32} {hig : Nat → Int32} {pri : Nat → Int32} {sta : Nat → Int32} {ups : Nat → Int32} {dow : Nat → Int32} {onn : Nat → Int32} {ord : Nat → Nat} {flo : Nat → Int32} {sro : Nat → Int32} {sco : Nat → Int32} {n : Nat} {pu : Nat → Nat} {pd : Nat → Nat} (hw_d : isV h d (dayL d H U res dem kin low hig pri sta ups dow onn ord flo sro sco)) (dj_d_s : d + 14 ≤ sb ∨ sb + 21 ≤ d) (hpa : pa < 3) (hps : ps < 3) (hpb : pb < 3) (hU : U ≤ 4) (hH : H ≤ 6) (hup : ∀ j, j < U → ups j = nI (pu j) ∧ 1 ≤ pu j ∧ pu j ≤ 3) (hdn : ∀ j, j < U → dow j = nI (pd j) ∧ 1 ≤ pd j ∧ pd j ≤ 3) (hO : ∀ j, j < 4 → ord j < 4) (hn : n ≤ 6) : Ret G 3 mX5_lookAround [.ref sb, .ref d, .int (nI n)] (ov h sb (seaL sb con cst cpa car sc sz wt tof ton w3 pa pb ps su ss sk)) none (ov h sb (seaL sb con cst (f_Search_lookAround con cst cpa car sc sz wt tof ton w3 pa pb ps H U res dem kin hig pri ord flo sro sco n pu pd).1 (f_Search_lookAround con cst cpa car sc sz wt tof ton w3 pa pb ps H U res dem kin hig pri ord flo sro sco n pu pd).2.1 (f_Search_lookAround con cst cpa car sc sz wt tof ton w3 pa pb ps H U res dem kin hig pri ord flo sro sco n pu pd).2.2.1 (f_Search_lookAround con cst cpa car sc sz wt tof ton w3 pa pb ps H U res dem kin hig pri ord flo sro sco n pu pd).2.2.2.1 (f_Search_lookAround con cst cpa car sc sz wt tof ton w3 pa pb ps H U res dem kin hig pri ord flo sro sco n pu pd).2.2.2.2.1 (f_Search_lookAround con cst cpa car sc sz wt tof ton w3 pa pb ps H U res dem kin hig pri ord flo sro sco n pu pd).2.2.2.2.2.1 (f_Search_lookAround con cst cpa car sc sz wt tof ton w3 pa pb ps H U res dem kin hig pri ord flo sro sco n pu pd).2.2.2.2.2.2.1 (f_Search_lookAround con cst cpa car sc sz wt tof ton w3 pa pb ps H U res dem kin hig pri ord flo sro sco n pu pd).2.2.2.2.2.2.2.1 (f_Search_lookAround con cst cpa car sc sz wt tof ton w3 pa pb ps H U res dem kin hig pri ord flo sro sco n pu pd).2.2.2.2.2.2.2.2.1 (f_Search_lookAround con cst cpa car sc sz wt tof ton w3 pa pb ps H U res dem kin hig pri ord flo sro sco n pu pd).2.2.2.2.2.2.2.2.2.1 (f_Search_lookAround con cst cpa car sc sz wt tof ton w3 pa pb ps H U res dem kin hig pri ord flo sro sco n pu pd).2.2.2.2.2.2.2.2.2.2.1 (f_Search_lookAround con cst cpa car sc sz wt tof ton w3 pa pb ps H U res dem kin hig pri ord flo sro sco n pu pd).2.2.2.2.2.2.2.2.2.2.2.1 (f_Search_lookAround con cst cpa car sc sz wt tof ton w3 pa pb ps H U res dem kin hig pri ord flo sro sco n pu pd).2.2.2.2.2.2.2.2.2.2.2.2.1 (f_Search_lookAround con cst cpa car sc sz wt tof ton w3 pa pb ps H U res dem kin hig pri ord flo sro sco n pu pd).2.2.2.2.2.2.2.2.2.2.2.2.2)) := by
  generalize hf : f_Search_lookAround con cst cpa car sc sz wt tof ton w3 pa pb ps H U res dem kin hig pri ord flo sro sco n pu pd = R
  unfold f_Search_lookAround at hf
  refine Ret.of [(0, .ref sb), (1, .ref d), (2, .int (nI n))] (by decide) (Nat.le_of_ble_eq_true rfl) rfl ?_
  rintro Z rfl X Y
  have hv_s : isV (ov h sb (seaL sb con cst cpa car sc sz wt tof ton w3 pa pb ps su ss sk)) sb (seaL sb con cst cpa car sc sz wt tof ton w3 pa pb ps su ss sk) := ov_isV
  have hv_d : isV (ov h sb (seaL sb con cst cpa car sc sz wt tof ton w3 pa pb ps su ss sk)) d (dayL d H U res dem kin low hig pri sta ups dow onn ord flo sro sco) := isV_ov dj_d_s (hw_d)
  refine r_aload_n X 0 dX5_lookAround_0 rfl ?_
  refine r_aload_n X 1 dX5_lookAround_1 rfl ?_
  refine r_iconst X (-1 : Int32) dX5_lookAround_2 (by decide) ?_
  refine cl_X5_60 X (by decide) dX5_lookAround_3 (Nat.le_of_ble_eq_true rfl) (hv_s 0 _ rfl) (c_Search_layStates hw_d (by first | assumption | omega) (by first | assumption | omega) (by first | assumption | omega) (by first | assumption | omega)) ?_
  obtain ⟨q1, eq1⟩ : ∃ q, q = f_Search_layStates sc sz wt tof ton U kin (-1 : Int32) pu pd := ⟨_, rfl⟩
  rw [← eq1]
  rw [← eq1] at hf
  rw [lt_eq] at hf
  have hL_q1 : lsI (-1 : Int32) kin pu pd U q1.1 q1.2.1 q1.2.2.1 q1.2.2.2.1 q1.2.2.2.2.1 q1.2.2.2.2.2.2.1 q1.2.2.2.2.2.2.2 := by rw [eq1]; exact ls_post (by assumption) (by assumption) (by assumption)
  have hsu_q1 : q1.2.2.2.2.2.1 = U := by rw [eq1]; exact rfl
  have hv_s : isV (ov h sb (seaL sb con cst cpa car q1.1 q1.2.1 q1.2.2.1 q1.2.2.2.1 q1.2.2.2.2.1 w3 pa pb ps q1.2.2.2.2.2.1 q1.2.2.2.2.2.2.1 q1.2.2.2.2.2.2.2)) sb (seaL sb con cst cpa car q1.1 q1.2.1 q1.2.2.1 q1.2.2.2.1 q1.2.2.2.2.1 w3 pa pb ps q1.2.2.2.2.2.1 q1.2.2.2.2.2.2.1 q1.2.2.2.2.2.2.2) := ov_isV
  have hv_d : isV (ov h sb (seaL sb con cst cpa car q1.1 q1.2.1 q1.2.2.1 q1.2.2.2.1 q1.2.2.2.2.1 w3 pa pb ps q1.2.2.2.2.2.1 q1.2.2.2.2.2.2.1 q1.2.2.2.2.2.2.2)) d (dayL d H U res dem kin low hig pri sta ups dow onn ord flo sro sco) := isV_ov dj_d_s (hw_d)
  refine r_aload_n X 0 dX5_lookAround_6 rfl ?_
  refine r_aload_n X 1 dX5_lookAround_7 rfl ?_
  refine r_iload_n X 2 dX5_lookAround_8 rfl ?_
  refine cl_X5_70 X (by decide) dX5_lookAround_9 (Nat.le_of_ble_eq_true rfl) (hv_s 0 _ rfl) (c_Search_walk hw_d (by first | assumption | omega) (by first | assumption | omega) (by first | assumption | omega) (lsI_ss hL_q1 hU hup hdn) (lsI_s0 hL_q1) (by rw [hsu_q1]; exact hU) (lsI_to hL_q1 hsu_q1 hU hup hdn) (lsI_tn hL_q1 hsu_q1 hU hup hdn) (lsI_sz hL_q1 hsu_q1 hU hup hdn) (lsI_sc hL_q1 hU) (lsI_sk hL_q1 hU) (by first | assumption | omega) (by first | assumption | omega) (by first | assumption | omega)) ?_
  obtain ⟨q2, eq2⟩ : ∃ q, q = f_Search_walk con cst cpa q1.1 q1.2.1 q1.2.2.1 q1.2.2.2.1 q1.2.2.2.2.1 w3 pa ps q1.2.2.2.2.2.1 q1.2.2.2.2.2.2.1 q1.2.2.2.2.2.2.2 U res dem hig pri ord flo sro sco n := ⟨_, rfl⟩
  rw [← eq2]
  rw [← eq2] at hf
  rw [lt_eq] at hf
  have hp_q2 : q2.2.2.1 < 3 ∧ q2.2.2.2 < 3 := by rw [eq2]; exact walk_ps2 (by omega) (by omega)
  have hv_s : isV (ov h sb (seaL sb con cst q2.1 car q1.1 q1.2.1 q1.2.2.1 q1.2.2.2.1 q1.2.2.2.2.1 q2.2.1 q2.2.2.1 pb q2.2.2.2 q1.2.2.2.2.2.1 q1.2.2.2.2.2.2.1 q1.2.2.2.2.2.2.2)) sb (seaL sb con cst q2.1 car q1.1 q1.2.1 q1.2.2.1 q1.2.2.2.1 q1.2.2.2.2.1 q2.2.1 q2.2.2.1 pb q2.2.2.2 q1.2.2.2.2.2.1 q1.2.2.2.2.2.2.1 q1.2.2.2.2.2.2.2) := ov_isV
  have hv_d : isV (ov h sb (seaL sb con cst q2.1 car q1.1 q1.2.1 q1.2.2.1 q1.2.2.2.1 q1.2.2.2.2.1 q2.2.1 q2.2.2.1 pb q2.2.2.2 q1.2.2.2.2.2.1 q1.2.2.2.2.2.2.1 q1.2.2.2.2.2.2.2)) d (dayL d H U res dem kin low hig pri sta ups dow onn ord flo sro sco) := isV_ov dj_d_s (hw_d)
  refine r_aload_n X 0 dX5_lookAround_12 rfl ?_
  refine cl_X5_80 X (by decide) dX5_lookAround_13 (Nat.le_of_ble_eq_true rfl) (hv_s 0 _ rfl) (c_Search_turnAll  (by first | assumption | omega) (by first | assumption | omega) (lsI_ss hL_q1 hU hup hdn) (by rw [hsu_q1]; exact hU) (lsI_to hL_q1 hsu_q1 hU hup hdn) (lsI_tn hL_q1 hsu_q1 hU hup hdn) (lsI_sz hL_q1 hsu_q1 hU hup hdn)) ?_
  obtain ⟨q3, eq3⟩ : ∃ q, q = f_Search_turnAll q1.2.1 q1.2.2.1 q1.2.2.2.1 q1.2.2.2.2.1 q2.2.1 q2.2.2.1 q2.2.2.2 q1.2.2.2.2.2.1 q1.2.2.2.2.2.2.1 := ⟨_, rfl⟩
  rw [← eq3]
  rw [← eq3] at hf
  rw [lt_eq] at hf
  have hp_q3 : q3.2.1 < 3 ∧ q3.2.2 < 3 := by rw [eq3]; exact turnAll_post (by omega) (by omega)
  have hv_s : isV (ov h sb (seaL sb con cst q2.1 car q1.1 q1.2.1 q1.2.2.1 q1.2.2.2.1 q1.2.2.2.2.1 q3.1 q3.2.1 pb q3.2.2 q1.2.2.2.2.2.1 q1.2.2.2.2.2.2.1 q1.2.2.2.2.2.2.2)) sb (seaL sb con cst q2.1 car q1.1 q1.2.1 q1.2.2.1 q1.2.2.2.1 q1.2.2.2.2.1 q3.1 q3.2.1 pb q3.2.2 q1.2.2.2.2.2.1 q1.2.2.2.2.2.2.1 q1.2.2.2.2.2.2.2) := ov_isV
  have hv_d : isV (ov h sb (seaL sb con cst q2.1 car q1.1 q1.2.1 q1.2.2.1 q1.2.2.2.1 q1.2.2.2.2.1 q3.1 q3.2.1 pb q3.2.2 q1.2.2.2.2.2.1 q1.2.2.2.2.2.2.1 q1.2.2.2.2.2.2.2)) d (dayL d H U res dem kin low hig pri sta ups dow onn ord flo sro sco) := isV_ov dj_d_s (hw_d)
  refine r_aload_n X 0 dX5_lookAround_16 rfl ?_
  refine r_aload_n X 1 dX5_lookAround_17 rfl ?_
  refine r_iload_n X 2 dX5_lookAround_18 rfl ?_
  refine cl_X5_83 X (by decide) dX5_lookAround_19 (Nat.le_of_ble_eq_true rfl) (hv_s 0 _ rfl) (c_Search_walkBack hw_d (by first | assumption | omega) (by first | assumption | omega) (by first | assumption | omega) (lsI_ss hL_q1 hU hup hdn) (lsI_s0 hL_q1) (by rw [hsu_q1]; exact hU) (lsI_to hL_q1 hsu_q1 hU hup hdn) (lsI_tn hL_q1 hsu_q1 hU hup hdn) (lsI_sz hL_q1 hsu_q1 hU hup hdn) (lsI_sc hL_q1 hU) (lsI_sk hL_q1 hU) (by first | assumption | omega) (by first | assumption | omega) (by first | assumption | omega) (by first | assumption | omega)) ?_
  obtain ⟨q4, eq4⟩ : ∃ q, q = f_Search_walkBack con cst q2.1 q1.1 q1.2.1 q1.2.2.1 q1.2.2.2.1 q1.2.2.2.2.1 q3.1 pb q3.2.2 q1.2.2.2.2.2.1 q1.2.2.2.2.2.2.1 q1.2.2.2.2.2.2.2 H U res dem hig pri ord flo sro sco n := ⟨_, rfl⟩
  rw [← eq4]
  rw [← eq4] at hf
  rw [lt_eq] at hf
  have hp_q4 : q4.2.2.1 < 3 ∧ q4.2.2.2 < 3 := by rw [eq4]; exact walkBack_ps (by omega) (by omega)
  have hv_s : isV (ov h sb (seaL sb con cst q4.1 car q1.1 q1.2.1 q1.2.2.1 q1.2.2.2.1 q1.2.2.2.2.1 q4.2.1 q3.2.1 q4.2.2.1 q4.2.2.2 q1.2.2.2.2.2.1 q1.2.2.2.2.2.2.1 q1.2.2.2.2.2.2.2)) sb (seaL sb con cst q4.1 car q1.1 q1.2.1 q1.2.2.1 q1.2.2.2.1 q1.2.2.2.2.1 q4.2.1 q3.2.1 q4.2.2.1 q4.2.2.2 q1.2.2.2.2.2.1 q1.2.2.2.2.2.2.1 q1.2.2.2.2.2.2.2) := ov_isV
  have hv_d : isV (ov h sb (seaL sb con cst q4.1 car q1.1 q1.2.1 q1.2.2.1 q1.2.2.2.1 q1.2.2.2.2.1 q4.2.1 q3.2.1 q4.2.2.1 q4.2.2.2 q1.2.2.2.2.2.1 q1.2.2.2.2.2.2.1 q1.2.2.2.2.2.2.2)) d (dayL d H U res dem kin low hig pri sta ups dow onn ord flo sro sco) := isV_ov dj_d_s (hw_d)
  have hs6 := lsI_ss hL_q1 hU hup hdn
  have hs8 := lsI_sc hL_q1 hU
  refine r_aload_n X 0 dX5_lookAround_22 rfl ?_
  refine gf_X5_22 X dX5_lookAround_23 (hv_s 0 _ rfl) rfl ?_
  refine r_ldc2 X dX5_lookAround_26 kk_X5_73 ?_
  refine cl_X5_86 X (by decide) dX5_lookAround_29 (Nat.le_of_ble_eq_true rfl) (c_fillJ_up (hv_s 4 _ rfl) (by decide)) ?_
  refine SW.heq (h2 := (ov h sb (seaL sb con cst q4.1 (f_fillJ 81 car (1152921504606846976 : Int64)) q1.1 q1.2.1 q1.2.2.1 q1.2.2.2.1 q1.2.2.2.2.1 q4.2.1 q3.2.1 q4.2.2.1 q4.2.2.2 q1.2.2.2.2.2.1 q1.2.2.2.2.2.2.1 q1.2.2.2.2.2.2.2))) (ov_up 4 (Nat.le_of_ble_eq_true rfl) rfl) ?_
  have hv_s : isV (ov h sb (seaL sb con cst q4.1 (f_fillJ 81 car (1152921504606846976 : Int64)) q1.1 q1.2.1 q1.2.2.1 q1.2.2.2.1 q1.2.2.2.2.1 q4.2.1 q3.2.1 q4.2.2.1 q4.2.2.2 q1.2.2.2.2.2.1 q1.2.2.2.2.2.2.1 q1.2.2.2.2.2.2.2)) sb (seaL sb con cst q4.1 (f_fillJ 81 car (1152921504606846976 : Int64)) q1.1 q1.2.1 q1.2.2.1 q1.2.2.2.1 q1.2.2.2.2.1 q4.2.1 q3.2.1 q4.2.2.1 q4.2.2.2 q1.2.2.2.2.2.1 q1.2.2.2.2.2.2.1 q1.2.2.2.2.2.2.2) := ov_isV
  have hv_d : isV (ov h sb (seaL sb con cst q4.1 (f_fillJ 81 car (1152921504606846976 : Int64)) q1.1 q1.2.1 q1.2.2.1 q1.2.2.2.1 q1.2.2.2.2.1 q4.2.1 q3.2.1 q4.2.2.1 q4.2.2.2 q1.2.2.2.2.2.1 q1.2.2.2.2.2.2.1 q1.2.2.2.2.2.2.2)) d (dayL d H U res dem kin low hig pri sta ups dow onn ord flo sro sco) := isV_ov dj_d_s (hw_d)
  refine r_iconst X (0 : Int32) dX5_lookAround_32 (by decide) ?_
  refine r_istore_n [(0, .ref sb), (1, .ref d), (2, .int (nI n)), (3, .int (0 : Int32))] X dX5_lookAround_33 rfl (by decide) rfl ?_
  refine SW.pick [0, 3] [(0, .ref sb), (3, .int (0 : Int32))] rfl ?_
  refine loop_up (P := fun k1 => SW Z 34 [(0, .ref sb), (3, .int (nI k1))] [] (ov h sb (seaL sb con cst q4.1 (f_Search_lookAround_L34 q1.1 q4.2.1 q3.2.1 q4.2.2.1 (f_fillJ 81 car (1152921504606846976 : Int64)) k1) q1.1 q1.2.1 q1.2.2.1 q1.2.2.2.1 q1.2.2.2.2.1 q4.2.1 q3.2.1 q4.2.2.1 q4.2.2.2 q1.2.2.2.2.2.1 q1.2.2.2.2.2.2.1 q1.2.2.2.2.2.2.2))) q1.2.2.2.2.2.2.1 ?_ ?_ 0 (Nat.zero_le _)
  rotate_left
  · intro k1 hk1 ih
    have hv_s : isV (ov h sb (seaL sb con cst q4.1 (f_Search_lookAround_L34 q1.1 q4.2.1 q3.2.1 q4.2.2.1 (f_fillJ 81 car (1152921504606846976 : Int64)) k1) q1.1 q1.2.1 q1.2.2.1 q1.2.2.2.1 q1.2.2.2.2.1 q4.2.1 q3.2.1 q4.2.2.1 q4.2.2.2 q1.2.2.2.2.2.1 q1.2.2.2.2.2.2.1 q1.2.2.2.2.2.2.2)) sb (seaL sb con cst q4.1 (f_Search_lookAround_L34 q1.1 q4.2.1 q3.2.1 q4.2.2.1 (f_fillJ 81 car (1152921504606846976 : Int64)) k1) q1.1 q1.2.1 q1.2.2.1 q1.2.2.2.1 q1.2.2.2.2.1 q4.2.1 q3.2.1 q4.2.2.1 q4.2.2.2 q1.2.2.2.2.2.1 q1.2.2.2.2.2.2.1 q1.2.2.2.2.2.2.2) := ov_isV
    have hv_d : isV (ov h sb (seaL sb con cst q4.1 (f_Search_lookAround_L34 q1.1 q4.2.1 q3.2.1 q4.2.2.1 (f_fillJ 81 car (1152921504606846976 : Int64)) k1) q1.1 q1.2.1 q1.2.2.1 q1.2.2.2.1 q1.2.2.2.2.1 q4.2.1 q3.2.1 q4.2.2.1 q4.2.2.2 q1.2.2.2.2.2.1 q1.2.2.2.2.2.2.1 q1.2.2.2.2.2.2.2)) d (dayL d H U res dem kin low hig pri sta ups dow onn ord flo sro sco) := isV_ov dj_d_s (hw_d)
    refine r_iload_n X 1 dX5_lookAround_34 rfl ?_
    refine r_aload_n X 0 dX5_lookAround_35 rfl ?_
    refine gf_X5_75 X dX5_lookAround_36 (hv_s 0 _ rfl) rfl ?_
    refine r_icmp_ge X 86 dX5_lookAround_39 rfl (fun z => absurd (nI_lt (a := k1) (b := q1.2.2.2.2.2.2.1) (by omega) (by omega)) z) (fun _ => ?_)
    refine r_aload_n X 0 dX5_lookAround_42 rfl ?_
    refine gf_X5_25 X dX5_lookAround_43 (hv_s 0 _ rfl) rfl ?_
    refine r_iload_n X 1 dX5_lookAround_46 rfl ?_
    refine r_ialdn X (k0 := k1) dX5_lookAround_47 (hv_s 5 _ rfl) (by omega) (by decide) ?_
    refine r_istore [(0, .ref sb), (3, .int (nI k1)), (4, .int (nI (q1.1 k1)))] X dX5_lookAround_48 (by decide) rfl ?_
    refine r_aload_n X 0 dX5_lookAround_50 rfl ?_
    refine gf_X5_22 X dX5_lookAround_51 (hv_s 0 _ rfl) rfl ?_
    refine r_iload X 2 dX5_lookAround_54 rfl ?_
    refine r_aload_n X 0 dX5_lookAround_56 rfl ?_
    refine gf_X5_22 X dX5_lookAround_57 (hv_s 0 _ rfl) rfl ?_
    refine r_iload X 2 dX5_lookAround_60 rfl ?_
    refine r_laldn X (k0 := q1.1 k1) dX5_lookAround_62 (hv_s 4 _ rfl) (hs8 _ (by omega)) (by decide) ?_
    refine r_aload_n X 0 dX5_lookAround_63 rfl ?_
    refine gf_X5_42 X dX5_lookAround_64 (hv_s 0 _ rfl) rfl ?_
    refine r_iload_n X 1 dX5_lookAround_67 rfl ?_
    refine r_laldn X (k0 := k1) dX5_lookAround_68 (hv_s (18 + q3.2.1) _ (seaL_w3 (by omega))) (by omega) (by decide) ?_
    refine r_aload_n X 0 dX5_lookAround_69 rfl ?_
    refine gf_X5_45 X dX5_lookAround_70 (hv_s 0 _ rfl) rfl ?_
    refine r_iload_n X 1 dX5_lookAround_73 rfl ?_
    refine r_laldn X (k0 := k1) dX5_lookAround_74 (hv_s (18 + q4.2.2.1) _ (seaL_w3 (by omega))) (by omega) (by decide) ?_
    refine r_ladd X dX5_lookAround_75 ?_
    refine mm_X5_92 X (by decide) dX5_lookAround_76 (Nat.le_of_ble_eq_true rfl) ?_
    refine r_lastn X (k0 := q1.1 k1) dX5_lookAround_79 (hv_s 4 _ rfl) (hs8 _ (by omega)) (by first | decide | omega) ?_
    refine SW.heq (h2 := (ov h sb (seaL sb con cst q4.1 (vp_updL (f_Search_lookAround_L34 q1.1 q4.2.1 q3.2.1 q4.2.2.1 (f_fillJ 81 car (1152921504606846976 : Int64)) k1) (q1.1 k1) (f_Math_minJ ((f_Search_lookAround_L34 q1.1 q4.2.1 q3.2.1 q4.2.2.1 (f_fillJ 81 car (1152921504606846976 : Int64)) k1) (q1.1 k1)) (((q4.2.1 q3.2.1) k1) + ((q4.2.1 q4.2.2.1) k1)))) q1.1 q1.2.1 q1.2.2.1 q1.2.2.2.1 q1.2.2.2.2.1 q4.2.1 q3.2.1 q4.2.2.1 q4.2.2.2 q1.2.2.2.2.2.1 q1.2.2.2.2.2.2.1 q1.2.2.2.2.2.2.2))) (ov_up 4 (Nat.le_of_ble_eq_true rfl) rfl) ?_
    have hv_s : isV (ov h sb (seaL sb con cst q4.1 (vp_updL (f_Search_lookAround_L34 q1.1 q4.2.1 q3.2.1 q4.2.2.1 (f_fillJ 81 car (1152921504606846976 : Int64)) k1) (q1.1 k1) (f_Math_minJ ((f_Search_lookAround_L34 q1.1 q4.2.1 q3.2.1 q4.2.2.1 (f_fillJ 81 car (1152921504606846976 : Int64)) k1) (q1.1 k1)) (((q4.2.1 q3.2.1) k1) + ((q4.2.1 q4.2.2.1) k1)))) q1.1 q1.2.1 q1.2.2.1 q1.2.2.2.1 q1.2.2.2.2.1 q4.2.1 q3.2.1 q4.2.2.1 q4.2.2.2 q1.2.2.2.2.2.1 q1.2.2.2.2.2.2.1 q1.2.2.2.2.2.2.2)) sb (seaL sb con cst q4.1 (vp_updL (f_Search_lookAround_L34 q1.1 q4.2.1 q3.2.1 q4.2.2.1 (f_fillJ 81 car (1152921504606846976 : Int64)) k1) (q1.1 k1) (f_Math_minJ ((f_Search_lookAround_L34 q1.1 q4.2.1 q3.2.1 q4.2.2.1 (f_fillJ 81 car (1152921504606846976 : Int64)) k1) (q1.1 k1)) (((q4.2.1 q3.2.1) k1) + ((q4.2.1 q4.2.2.1) k1)))) q1.1 q1.2.1 q1.2.2.1 q1.2.2.2.1 q1.2.2.2.2.1 q4.2.1 q3.2.1 q4.2.2.1 q4.2.2.2 q1.2.2.2.2.2.1 q1.2.2.2.2.2.2.1 q1.2.2.2.2.2.2.2) := ov_isV
    have hv_d : isV (ov h sb (seaL sb con cst q4.1 (vp_updL (f_Search_lookAround_L34 q1.1 q4.2.1 q3.2.1 q4.2.2.1 (f_fillJ 81 car (1152921504606846976 : Int64)) k1) (q1.1 k1) (f_Math_minJ ((f_Search_lookAround_L34 q1.1 q4.2.1 q3.2.1 q4.2.2.1 (f_fillJ 81 car (1152921504606846976 : Int64)) k1) (q1.1 k1)) (((q4.2.1 q3.2.1) k1) + ((q4.2.1 q4.2.2.1) k1)))) q1.1 q1.2.1 q1.2.2.1 q1.2.2.2.1 q1.2.2.2.2.1 q4.2.1 q3.2.1 q4.2.2.1 q4.2.2.2 q1.2.2.2.2.2.1 q1.2.2.2.2.2.2.1 q1.2.2.2.2.2.2.2)) d (dayL d H U res dem kin low hig pri sta ups dow onn ord flo sro sco) := isV_ov dj_d_s (hw_d)
    refine r_iinc [(0, .ref sb), (3, .int (nI (k1 + 1))), (4, .int (nI (q1.1 k1)))] X (nI (k1 + 1)) 1 dX5_lookAround_80 rfl (nI_succ _).symm (by decide) rfl ?_
    refine r_goto X 34 dX5_lookAround_83 rfl ?_
    refine SW.pick [0, 1] [(0, .ref sb), (3, .int (nI (k1 + 1)))] rfl ?_
    exact ih
  have hv_s : isV (ov h sb (seaL sb con cst q4.1 (f_Search_lookAround_L34 q1.1 q4.2.1 q3.2.1 q4.2.2.1 (f_fillJ 81 car (1152921504606846976 : Int64)) q1.2.2.2.2.2.2.1) q1.1 q1.2.1 q1.2.2.1 q1.2.2.2.1 q1.2.2.2.2.1 q4.2.1 q3.2.1 q4.2.2.1 q4.2.2.2 q1.2.2.2.2.2.1 q1.2.2.2.2.2.2.1 q1.2.2.2.2.2.2.2)) sb (seaL sb con cst q4.1 (f_Search_lookAround_L34 q1.1 q4.2.1 q3.2.1 q4.2.2.1 (f_fillJ 81 car (1152921504606846976 : Int64)) q1.2.2.2.2.2.2.1) q1.1 q1.2.1 q1.2.2.1 q1.2.2.2.1 q1.2.2.2.2.1 q4.2.1 q3.2.1 q4.2.2.1 q4.2.2.2 q1.2.2.2.2.2.1 q1.2.2.2.2.2.2.1 q1.2.2.2.2.2.2.2) := ov_isV
  have hv_d : isV (ov h sb (seaL sb con cst q4.1 (f_Search_lookAround_L34 q1.1 q4.2.1 q3.2.1 q4.2.2.1 (f_fillJ 81 car (1152921504606846976 : Int64)) q1.2.2.2.2.2.2.1) q1.1 q1.2.1 q1.2.2.1 q1.2.2.2.1 q1.2.2.2.2.1 q4.2.1 q3.2.1 q4.2.2.1 q4.2.2.2 q1.2.2.2.2.2.1 q1.2.2.2.2.2.2.1 q1.2.2.2.2.2.2.2)) d (dayL d H U res dem kin low hig pri sta ups dow onn ord flo sro sco) := isV_ov dj_d_s (hw_d)
  refine r_iload_n X 1 dX5_lookAround_34 rfl ?_
  refine r_aload_n X 0 dX5_lookAround_35 rfl ?_
  refine gf_X5_75 X dX5_lookAround_36 (hv_s 0 _ rfl) rfl ?_
  refine r_icmp_ge X 86 dX5_lookAround_39 rfl (fun _ => ?_) (fun z => absurd z (nI_nlt (a := q1.2.2.2.2.2.2.1) (b := q1.2.2.2.2.2.2.1) (by omega) (by omega)))
  try subst hf
  exact r_return X Y dX5_lookAround_86 rfl rfl
