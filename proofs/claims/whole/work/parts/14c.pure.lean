def swp (a b c d : Nat) : Prop := (c = a ∧ d = b) ∨ (c = b ∧ d = a)
theorem swp_tr {a b c d e f : Nat} (h1 : swp a b c d) (h2 : swp c d e f) : swp a b e f := by
  unfold swp at *
  omega
theorem ta_sw {sz wt : Nat → Nat} {tof ton : Nat → Nat → Int32} {ss : Nat} {w3 : Nat → Nat → Int64} {pa ps : Nat} : ∀ k, swp pa ps (f_Search_turnAll_L2 sz wt tof ton ss w3 pa ps k).2.1 (f_Search_turnAll_L2 sz wt tof ton ss w3 pa ps k).2.2 := by
  intro k
  induction k with
  | zero => exact Or.inl ⟨rfl, rfl⟩
  | succ k ih =>
    rw [f_Search_turnAll_L2]
    unfold f_Search_turnAll_L2s
    exact swp_tr ih (Or.inr ⟨rfl, rfl⟩)
theorem wk_sw {con cst : Nat → Int32} {sc sz wt : Nat → Nat} {tof ton : Nat → Nat → Int32} {su ss sk U : Nat} {res : Int32} {dem hig pri : Nat → Int32} {ord : Nat → Nat} {flo sro sco : Nat → Int32} {cpa : Nat → Int64} {w3 : Nat → Nat → Int64} {pa ps : Nat} : ∀ k, swp pa ps (f_Search_walk_L20 con cst sc sz wt tof ton su ss sk U res dem hig pri ord flo sro sco cpa w3 pa ps k).2.2.1 (f_Search_walk_L20 con cst sc sz wt tof ton su ss sk U res dem hig pri ord flo sro sco cpa w3 pa ps k).2.2.2 := by
  intro k
  induction k with
  | zero => exact Or.inl ⟨rfl, rfl⟩
  | succ k ih =>
    rw [f_Search_walk_L20]
    unfold f_Search_walk_L20s
    exact swp_tr ih (ta_sw su)
theorem fb_sw {con cst : Nat → Int32} {cpa : Nat → Int64} {sc sz wt : Nat → Nat} {tof ton : Nat → Nat → Int32} {w3 : Nat → Nat → Int64} {pa ps H U : Nat} {res : Int32} {dem kin hig pri : Nat → Int32} {ord : Nat → Nat} {flo sro sco : Nat → Int32} {wo : Int32} {pu pd : Nat → Nat} {R : Int64 × (Nat → Int64) × (Nat → Nat) × (Nat → Nat) × (Nat → Nat) × (Nat → Nat → Int32) × (Nat → Nat → Int32) × (Nat → Nat → Int64) × Nat × Nat × Nat × Nat × Nat}
    (hR : f_Search_findBest con cst cpa sc sz wt tof ton w3 pa ps H U res dem kin hig pri ord flo sro sco wo pu pd = R) : swp pa ps R.2.2.2.2.2.2.2.2.1 R.2.2.2.2.2.2.2.2.2.1 := by
  subst hR
  unfold f_Search_findBest f_Search_walk
  exact wk_sw H
def bestIs (lost : Int32) (P : Nat → Nat) (kn : Int64) : Prop := ∀ (W : Nat → Nat → Int32) (wi : Nat) (gvn costs lst sets : Nat → Int32), mD (W wi) P → ∃ D, bdv D ∧ kn = encB D ∧ (f_Model_bestCost W gvn costs lst sets lost wi (P 0) (P 1)).1 = f_Search_costOf kn ∧ (f_Model_bestCost W gvn costs lst sets lost wi (P 0) (P 1)).2.2.2.2.2 = encM D ∧ (D < FARn → ∀ h, h < P 1 → (f_Model_bestCost W gvn costs lst sets lost wi (P 0) (P 1)).2.2.2.2.1 h = f_Search_unitsIn kn (nI h)) ∧ (D < FARn → ∀ h, P 1 ≤ h → h < 6 → f_Search_unitsIn kn (nI h) = 0)
def tbl (con cst : Nat → Int32) : Prop := ∀ c, c < 81 → con c = nI (onC c) ∧ cst c = nI (stC c)
def lostIs (lost wo : Int32) : Prop := (lost = -1000000 ∧ wo = -1) ∨ ∃ k, k < 4 ∧ lost = nI k ∧ wo = nI k
theorem lost_ne : ((List.range 4).all fun j => decide (¬ nI j = (-1000000 : Int32) ∧ ¬ nI j = (-1 : Int32))) = true := by decide +kernel
theorem puP {P : Nat → Nat} {H U : Nat} {res : Int32} {dem kin low hig pri sta ups dow onn : Nat → Int32} (hP : nOK P) (hc : cD P H U res dem kin low hig pri sta ups dow onn) : (∀ j, j < U → ups j = nI (P ((9 + (8 * j)) + 5)) ∧ 1 ≤ P ((9 + (8 * j)) + 5) ∧ P ((9 + (8 * j)) + 5) ≤ 3) ∧ (∀ j, j < U → dow j = nI (P ((9 + (8 * j)) + 6)) ∧ 1 ≤ P ((9 + (8 * j)) + 6) ∧ P ((9 + (8 * j)) + 6) ≤ 3) := by
  obtain ⟨h0, h1, h2, h3, h4, h5⟩ := hP
  obtain ⟨rfl, rfl, c2, c3, c4⟩ := hc
  refine ⟨fun j hj => ⟨(c4 j hj).2.2.2.2.2.1, (h5 j hj).2.2.2.2.2.2.1⟩, fun j hj => ⟨(c4 j hj).2.2.2.2.2.2.1, (h5 j hj).2.2.2.2.2.2.2.1⟩⟩
theorem sp_hi {H h D : Nat} (hH : H ≤ h) (hh : h < 6) (hD : D < FARn) (hs : spB 0 H D) : f_Search_unitsIn (lN D) (nI h) = 0 := by
  rw [unitsIn_nat hD (by omega)]
  rcases hs with z | ⟨-, s2, -⟩
  · rw [z] at hD; exact absurd hD (Nat.lt_irrefl _)
  · have d1 : 2 ^ (4 * (6 - H)) ∣ 16777216 := Nat.pow_dvd_pow 2 (show 4 * (6 - H) ≤ 24 by omega)
    have d2 : 2 ^ (4 * (6 - H)) ∣ D := by
      have := Nat.dvd_add (Nat.dvd_mul_right_of_dvd d1 (D / 16777216)) s2
      rw [Nat.div_add_mod] at this
      exact this
    have d3 : 2 ^ (4 * (5 - h)) * 16 ∣ D := by
      refine Nat.dvd_trans ?_ d2
      rw [show (16 : Nat) = 2 ^ 4 from rfl, ← Nat.pow_add]
      exact Nat.pow_dvd_pow 2 (by omega)
    obtain ⟨c, hc⟩ := d3
    rw [hc, Nat.mul_assoc, Nat.mul_div_cancel_left _ (Nat.two_pow_pos _), Nat.mul_mod_right]
    rfl
theorem encB_inj {D E : Nat} (hD : D < FARn) (h : encB D = encB E) : D = E := by
  unfold encB at h
  rw [if_pos hD] at h
  by_cases c : E < FARn
  · rw [if_pos c] at h
    exact (pk_lEQ (by unfold FARn at hD; omega) (by unfold FARn at c; omega)).mp h
  · rw [if_neg c] at h
    exfalso
    have h0 : ¬ lN D < lN 0 := fun z => Nat.not_lt_zero _ ((pk_lLT (by unfold FARn at hD; omega) (by omega)).mp z)
    rw [h] at h0
    exact h0 (by decide)
theorem best_is {B : Nat} {P : Nat → Nat} {H U : Nat} {res lost wo : Int32} {dem kin low hig pri sta ups dow onn flo sro sco : Nat → Int32} {ord : Nat → Nat} {con cst : Nat → Int32} {cpa : Nat → Int64} {ssc ssz swt : Nat → Nat} {tof ton : Nat → Nat → Int32} {w3 : Nat → Nat → Int64} {pa ps : Nat} (hP : nOKb B P) (hB : B ≤ 100) (hc : cD P H U res dem kin low hig pri sta ups dow onn) (hs : cS P ord flo sro sco) (ht : tbl con cst) (hne : pa ≠ ps) (hl : lostIs lost wo) :
    bestIs lost P (f_Search_findBest con cst cpa ssc ssz swt tof ton w3 pa ps H U res dem kin hig pri ord flo sro sco wo (fun j => P ((9 + (8 * j)) + 5)) (fun j => P ((9 + (8 * j)) + 6))).1 := by
  intro W wi gvn costs lst sets hm
  have hu := uOK_of hP hm hc hs
  have hr := riv_of (wo := wo) hP hc
  obtain ⟨h0, h1, h2, h3, h4, h5⟩ := hP
  obtain ⟨rfl, rfl, c2, c3, c4⟩ := hc
  obtain ⟨D, b1, b2, b3, b4, b5⟩ := best_eq (W := W) (wi := wi) (U := P 0) (H := P 1) (res := res) (lost := lost) (wo := wo) (dem := dem) (kin := kin) (hig := hig) (pri := pri) (flo := flo) (sro := sro) (sco := sco) (ord := ord) (fl := flP P) (hi := hiP P) (sr := srP P) (pr := pP P) (sc := scP P) (pu := fun j => P ((9 + (8 * j)) + 5)) (pd := fun j => P ((9 + (8 * j)) + 6)) (dd := fun h => P (3 + h)) (r := P 2) (con := con) (cst := cst) (cpa := cpa) (ssc := ssc) (ssz := ssz) (swt := swt) (tof := tof) (ton := ton) (w3 := w3) (pa := pa) (ps := ps) (gvn := gvn) (costs := costs) (lst := lst) (sets := sets)
    h0 h1 hne (fun j hj => (h5 j hj).2.2.2.2.2.2.1) (fun j hj => (h5 j hj).2.2.2.2.2.2.2.1) (fun j hj => hm _ (by omega)) (fun j hj => hm _ (by omega)) (fun j hj => by
      have hk := lost_ne
      have hk2 := of_decide_eq_true (List.all_eq_true.mp hk j (List.mem_range.mpr (by omega)))
      unfold uMd
      rw [(c4 j hj).1]
      show (if nI j = lost then 0 else if W wi (9 + 8 * j) = 5 then 1 else 2) = _
      rw [hm (9 + (8 * j)) (by omega)]
      rcases hl with ⟨l1, l2⟩ | ⟨k, l0, l1, l2⟩
      · rw [l1, l2, if_neg hk2.1, if_neg hk2.2]
      · rw [l1, l2])
    (fun c hc => (ht c hc).1) (fun c hc => (ht c hc).2) (fun h hh => ⟨hm _ (by omega), c3 h hh, by have := h4 h hh; omega⟩) (hm 2 (by omega)) (by omega) c2 hs.1 hu hr
  have hv := hv_all (W := W) (wi := wi) (dd := fun h => P (3 + h)) (r := P 2) (dem := dem) (sr := srP P) (sc := scP P) h0 h1 (fun h hh => ⟨hm _ (by omega), c3 h hh, by have := h4 h hh; omega⟩) (hm 2 (by omega)) (by omega) c2 hs.1 hu
  have hfg := fb_gen (cpa := cpa) (sc := ssc) (sz := ssz) (wt := swt) (tof := tof) (ton := ton) (w3 := w3) (kin := kin) (wo := wo) (pu := fun j => P ((9 + (8 * j)) + 5)) (pd := fun j => P ((9 + (8 * j)) + 6)) (P := PD (P 0) (P 1) res dem hig pri ord flo sro sco) h0 h1 (fun j hj => (h5 j hj).2.2.2.2.2.2.1) (fun j hj => (h5 j hj).2.2.2.2.2.2.2.1) hne (PD_cc h0 h1 (fun c hc => (ht c hc).1) (fun c hc => (ht c hc).2) hv)
  refine ⟨D, b1, b2, by rw [b2]; exact b3, b4, fun hD h hh => by rw [b2]; exact b5 hD h hh, fun hD h h1' h6 => ?_⟩
  have eD := encB_inj hD (b2.symm.trans hfg)
  rw [b2, show encB D = lN D from if_pos hD]
  refine sp_hi h1' h6 hD ?_
  rw [eD]
  exact sp_WW h1 (PD_par (H := P 1) hv) (P 1) (Nat.le_refl _) _ (fun _ => sp_zf (Or.inl rfl)) 0
