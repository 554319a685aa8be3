theorem m20 {Hh : Nat} {lst : Nat → Int32} : ∀ k m, m < k → f_Model_finds_L20 Hh lst k (1296 * Hh + m) = 0 := by
  intro k
  induction k with
  | zero => intro m h; exact absurd h (Nat.not_lt_zero _)
  | succ k ih =>
    intro m hm
    show upd (f_Model_finds_L20 Hh lst k) ((1296 * Hh) + k) (0 : Int32) (1296 * Hh + m) = 0
    by_cases q : m = k
    · subst q; exact pk_us
    · rw [pk_un (by omega)]; exact ih m (by omega)
def TBL (W : Nat → Nat → Int32) (costs lst : Nat → Int32) (lost : Int32) (wi U Hh : Nat) : Nat → Int32 := (f_Model_finds_L55 W costs wi U lost (6 ^ U) (2 ^ U) (Hh + 1) Hh (f_Model_finds_L20 Hh lst (6 ^ U))).2
theorem tbl_0 {W : Nat → Nat → Int32} {costs lst : Nat → Int32} {lost : Int32} {wi U Hh : Nat} (hU : U ≤ 4) (hH : Hh ≤ 6) : ∀ m, m < 6 ^ U → TBL W costs lst lost wi U Hh (1296 * Hh + m) = 0 := fun m hm => by
  unfold TBL
  rw [(m55 (pow6_4 hU) (Hh + 1) Hh _ (by omega) (by omega)).1 _ (by omega)]
  exact m20 _ m hm
theorem tbl_r {W : Nat → Nat → Int32} {costs lst : Nat → Int32} {lost : Int32} {wi U Hh : Nat} (hU : U ≤ 4) (hH : Hh ≤ 6) : ∀ h m, h < Hh → m < 6 ^ U → TBL W costs lst lost wi U Hh (1296 * h + m) = (f_Model_finds_L76 W costs (TBL W costs lst lost wi U Hh) wi U lost (2 ^ U) h m (2 ^ U + 1) 100000000 0).1 := fun h m hh hm => (m55 (pow6_4 hU) (Hh + 1) Hh _ (by omega) (by omega)).2 h m hh hm
theorem DZ_SV {wo : Int32} {kin : Nat → Int32} {pu pd : Nat → Nat} {U H : Nat} {P : Nat → Nat → Nat} : DZ wo kin pu pd U P H = SV (ofZ wo kin pu pd U) (onZ wo kin pu pd U) (scZ wo kin pu pd U) U P H H 0 := by
  unfold DZ
  rw [← SV_WW H (Nat.le_refl _), Nat.sub_self]
  rfl
theorem encM_cost {D : Nat} (hD : bdv D) : (if encM D = (100000000 : Int32) then (-1000000 : Int32) else encM D) = f_Search_costOf (encB D) := by
  by_cases c : encM D = (100000000 : Int32)
  · rw [if_pos c, (encM_eqF hD).mp c]
    unfold encB
    rw [if_neg (Nat.lt_irrefl _), costOf_none]
  · rw [if_neg c]
    have hf : D < FARn := by
      have h2 := hD
      rcases h2 with z | z
      · exact Nat.lt_trans z (Nat.le_of_ble_eq_true rfl)
      · exact absurd ((encM_eqF hD).mpr z) c
    unfold encM encB
    rw [if_pos hf, if_pos hf, costOf_nat hf]
theorem bc_spec {W : Nat → Nat → Int32} {gvn costs lst sets : Nat → Int32} {wi U Hh : Nat} {lost wo : Int32} {kin : Nat → Int32} {pu pd : Nat → Nat} {P : Nat → Nat → Nat} (hU : U ≤ 4) (hH : Hh ≤ 6) (hpu : ∀ j, j < U → 1 ≤ pu j ∧ pu j ≤ 3) (hpd : ∀ j, j < U → 1 ≤ pd j ∧ pd j ≤ 3)
    (hWu : ∀ j, j < U → W wi ((9 + (8 * j)) + 5) = nI (pu j)) (hWd : ∀ j, j < U → W wi ((9 + (8 * j)) + 6) = nI (pd j)) (hmd : ∀ j, j < U → uMd lost (fun v => W wi (9 + 8 * v)) j = uMd wo kin j) (hP : ∀ h c, h < 6 → parB h (P h c))
    (hcost : ∀ h x m, h < Hh → x < 2 ^ U → (f_Model_fillsCosts W gvn costs wi U Hh).2 (81 * h + numz three (wdM x m) U) = encM (P h (numz three (wdC wo kin x m) U))) :
    (f_Model_bestCost W gvn costs lst sets lost wi U Hh).1 = f_Search_costOf (encB (DZ wo kin pu pd U P Hh)) ∧ (f_Model_bestCost W gvn costs lst sets lost wi U Hh).2.2.2.2.2 = encM (DZ wo kin pu pd U P Hh) ∧ bdv (DZ wo kin pu pd U P Hh) := by
  have key := dp_eq (T := TBL W (f_Model_fillsCosts W gvn costs wi U Hh).2 lst lost wi U Hh) hU hH hpu hpd hWu hWd hmd hP hcost (tbl_0 hU hH) (tbl_r hU hH) Hh (Nat.le_refl _) 0 0 (Nat.pow_pos (by decide)) (Or.inr rfl) (pwz_pos (fun u _ => zU_pos)) (fun u hu => by
    have e1 : 0 / 6 ^ u % 6 = 0 := by rw [Nat.zero_div]
    have e2 : digz (zU wo kin pu pd) 0 u = 0 := by unfold digz; rw [Nat.zero_div, Nat.zero_mod]
    rw [e1, e2]; exact rel_0)
  rw [Nat.sub_self, Nat.mul_zero, Nat.add_zero, ← DZ_SV] at key
  have hb : bdv (DZ wo kin pu pd U P Hh) := by rw [DZ_SV]; exact bd_of (SV_low hH hP Hh (Nat.le_refl _) 0)
  have e : (f_Model_finds W gvn costs lst sets lost wi U Hh).2.2.2.2 = TBL W (f_Model_fillsCosts W gvn costs wi U Hh).2 lst lost wi U Hh 0 := rfl
  rw [key] at e
  refine ⟨?_, ?_, hb⟩
  · rw [← encM_cost hb, ← e]
    unfold f_Model_bestCost
    rw [lt_eq]
  · rw [← e]
    unfold f_Model_bestCost
    rw [lt_eq]
