/-! longs as numbers (wb_, pf_: pasted from the kit's BITS.to-paste); what an hour's combos cost; findBest -/
theorem wb_tb (n : Nat) : (lN n).toBitVec = BitVec.ofNat 64 n := rfl
theorem wb_inj {a b : Int64} (h : a.toBitVec = b.toBitVec) : a = b := Int64.toBitVec_inj.mp h
theorem wb_c : ∀ k, k < 64 → ((nI k).toInt64 &&& 63) = lN k := by decide +kernel
theorem wb_sm : ∀ k, k < 64 → (BitVec.ofNat 64 k).smod 64 = BitVec.ofNat 64 k := by decide +kernel
theorem wb_shl (n : Nat) {k : Nat} (hk : k < 64) : lN n <<< ((nI k).toInt64 &&& 63) = lN (n * 2 ^ k) := by
  rw [wb_c k hk]
  apply wb_inj
  rw [Int64.toBitVec_shiftLeft, wb_tb, wb_tb, wb_tb, wb_sm k hk]
  apply BitVec.eq_of_toNat_eq
  rw [BitVec.shiftLeft_eq', BitVec.toNat_shiftLeft, BitVec.toNat_ofNat, BitVec.toNat_ofNat, BitVec.toNat_ofNat, Nat.shiftLeft_eq, Nat.mod_eq_of_lt (show k < 2 ^ 64 by omega), Nat.mod_mul_mod]
theorem pf_lI {a : Nat} (h : a < 2 ^ 63) : (lN a).toInt = (a : Int) := pk_lT h
theorem pf_shr {a d : Nat} {D : Int64} (hD : (D.toBitVec.smod 64).toNat = d) (h : a < 2 ^ 62) : lN a >>> D = lN (a / 2 ^ d) := by
  have hd : a / 2 ^ d ≤ a := Nat.div_le_self _ _
  apply Int64.toInt_inj.mp
  have e : (lN a >>> D).toInt = (lN a).toInt >>> d := by
    rw [← hD]
    exact BitVec.toInt_sshiftRight ..
  rw [e, Int.shiftRight_eq_div_pow, pf_lI (by omega), pf_lI (by omega)]
  rfl
theorem shrN {a k : Nat} (hk : k < 64) (h : a < 2 ^ 62) : lN a >>> ((nI k).toInt64 &&& 63) = lN (a / 2 ^ k) := by
  refine pf_shr ?_ h
  rw [wb_c k hk, wb_tb, wb_sm k hk, BitVec.toNat_ofNat, Nat.mod_eq_of_lt (by omega)]
theorem shiftOf_nat {h : Nat} (hh : h ≤ 5) : f_Search_shiftOf (nI h) = nI (4 * (5 - h)) := by
  show nI 4 * (nI 5 - nI h) = _
  rw [pk_sub hh, pk_mul]
theorem costOf_nat {D : Nat} (h : D < FARn) : f_Search_costOf (lN D) = nI (D / 2 ^ 24) := by
  unfold f_Search_costOf
  have h0 : ¬ lN D < (0 : Int64) := fun z => absurd ((pk_lLT (a := D) (b := 0) (by unfold FARn at h; omega) (by omega)).mp z) (by omega)
  rw [if_neg h0]
  have e : lN D >>> ((24 : Int32).toInt64 &&& 63) = lN (D / 2 ^ 24) := shrN (k := 24) (by decide) (by unfold FARn at h; omega)
  rw [e, lN_i]
theorem costOf_none : f_Search_costOf (-1000000 : Int64) = -1000000 := by decide
theorem unitsIn_nat {D h : Nat} (hD : D < FARn) (hh : h ≤ 5) : f_Search_unitsIn (lN D) (nI h) = nI (D / 2 ^ (4 * (5 - h)) % 16) := by
  unfold f_Search_unitsIn
  rw [shiftOf_nat hh, shrN (by omega) (by unfold FARn at hD; omega), lN_i, pk_and _ (m := 15) 4 (by decide)]
  congr 1
  show (BitVec.ofNat 32 _).toNat % 2 ^ 4 = _
  rw [BitVec.toNat_ofNat]
  omega
def PH (con cst : Nat → Int32) (U : Nat) (res : Int32) (dem hig pri : Nat → Int32) (ord : Nat → Nat) (flo sro sco : Nat → Int32) (h c : Nat) : Nat := if f_Day_hourCost U res hig pri ord flo sro sco (dem h) (con c) (cst c) = (-1000000 : Int32) then FARn else (f_Day_hourCost U res hig pri ord flo sro sco (dem h) (con c) (cst c)).toNatClampNeg * 2 ^ 24 + (con c).toNatClampNeg * 2 ^ (4 * (5 - h))
theorem pow20 {h : Nat} : 2 ^ (4 * (5 - h)) ≤ 2 ^ 20 := Nat.pow_le_pow_right (n := 2) (by decide) (by omega)
theorem ph_le {v o h : Nat} (hv : v ≤ 32767) (ho : o < 16) : v * 2 ^ 24 + o * 2 ^ (4 * (5 - h)) ≤ 1099511627776 := by
  have h1 : v * 2 ^ 24 ≤ 32767 * 2 ^ 24 := Nat.mul_le_mul_right _ hv
  have h2 : o * 2 ^ (4 * (5 - h)) ≤ 15 * 2 ^ 20 := Nat.mul_le_mul (by omega) pow20
  exact Nat.le_trans (Nat.add_le_add h1 h2) (Nat.le_of_ble_eq_true rfl)
section CC
variable {con cst : Nat → Int32} {U sk : Nat} {res : Int32} {dem hig pri flo sro sco : Nat → Int32} {ord : Nat → Nat}
theorem cc_L {hr : Nat} {cpa : Nat → Int64} : ∀ k c, f_Search_costCombos_L2 con cst U res dem hig pri ord flo sro sco hr cpa k c = if c < k then (if (f_Day_hourCost U res hig pri ord flo sro sco (dem hr) (con c) (cst c)) = (-1000000 : Int32) then (1152921504606846976 : Int64) else (((f_Day_hourCost U res hig pri ord flo sro sco (dem hr) (con c) (cst c)).toInt64) <<< ((24 : Int32).toInt64 &&& 63)) + (((con c).toInt64) <<< ((f_Search_shiftOf (nI hr)).toInt64 &&& 63))) else cpa c := by
  intro k
  induction k with
  | zero => intro c; rw [iteF (show ¬ c < 0 by omega)]; rfl
  | succ k ih =>
    intro c
    show f_Search_costCombos_L2s con cst U res dem hig pri ord flo sro sco hr k (f_Search_costCombos_L2 con cst U res dem hig pri ord flo sro sco hr cpa k) c = _
    unfold f_Search_costCombos_L2s
    by_cases q : c = k
    · subst q
      rw [pk_uLs, iteT (show c < c + 1 by omega)]
    · rw [pk_uLn q, ih c]
      exact iteC (by omega)
theorem cc_spec (hcon : ∀ c, c < 81 → ∃ o, o < 16 ∧ con c = nI o) (hHC : ∀ h c, h < 6 → c < 81 → f_Day_hourCost U res hig pri ord flo sro sco (dem h) (con c) (cst c) = -1000000 ∨ ∃ v, v ≤ 32767 ∧ f_Day_hourCost U res hig pri ord flo sro sco (dem h) (con c) (cst c) = nI v) (hsk : sk ≤ 81) :
    ∀ (cp : Nat → Int64) k c, k < 6 → c < sk → f_Search_costCombos con cst cp sk U res dem hig pri ord flo sro sco k c = lN (PH con cst U res dem hig pri ord flo sro sco k c) ∧ PH con cst U res dem hig pri ord flo sro sco k c ≤ FARn ∧ (PH con cst U res dem hig pri ord flo sro sco k c < FARn → PH con cst U res dem hig pri ord flo sro sco k c ≤ 1099511627776) := by
  intro cp k c hk hc
  have e : f_Search_costCombos con cst cp sk U res dem hig pri ord flo sro sco k c = _ := cc_L sk c
  rw [e, iteT hc]
  unfold PH
  obtain ⟨o, ho, eo⟩ := hcon c (by omega)
  by_cases n : f_Day_hourCost U res hig pri ord flo sro sco (dem k) (con c) (cst c) = (-1000000 : Int32)
  · rw [if_pos n, if_pos n]
    exact ⟨rfl, Nat.le_refl _, fun z => absurd z (Nat.lt_irrefl _)⟩
  · rw [if_neg n, if_neg n]
    rcases hHC k c hk (by omega) with z | ⟨v, hv, ev⟩
    · exact absurd z n
    · rw [ev, eo, nI_clamp (by omega), nI_clamp (by omega), nI_l (by omega), nI_l (by omega), shiftOf_nat (by omega), wb_shl _ (by omega)]
      have e24 : lN v <<< ((24 : Int32).toInt64 &&& 63) = lN (v * 2 ^ 24) := wb_shl v (k := 24) (by decide)
      rw [e24, lN_add]
      have hb := ph_le (h := k) hv ho
      exact ⟨rfl, by unfold FARn; omega, fun _ => hb⟩
end CC
theorem WW_congr {of_ on_ : Nat → Nat → Option Nat} {sc sc' : Nat → Nat} {U ss : Nat} {P : Nat → Nat → Nat} (ho : ∀ u s t, s < ss → of_ u s = some t → t < ss) (hn : ∀ u s t, s < ss → on_ u s = some t → t < ss) (hs : ∀ s, s < ss → sc s = sc' s) : ∀ (n : Nat) (g g' : Nat → Nat), (∀ s, s < ss → g s = g' s) → ∀ s, s < ss → WW of_ on_ sc U P n g s = WW of_ on_ sc' U P n g' s := by
  intro n
  induction n with
  | zero => intro g g' h s hs; exact h s hs
  | succ n ih =>
    intro g g' h s hs2
    exact ih _ _ (fun t ht => TT_congr ho hn U _ _ (fun x hx => by show fad (P n (sc x)) (g x) = fad (P n (sc' x)) (g' x); rw [hs x hx, h x hx]) t ht) s hs2
theorem ofZ_lt {wo : Int32} {kin : Nat → Int32} {pu pd : Nat → Nat} {U : Nat} (hpd : ∀ j, j < U → 1 ≤ pd j) : ∀ u s t, u < U → ofZ wo kin pu pd U u s = some t → t < pwz (zU wo kin pu pd) U := by
  intro u s t hu h
  unfold ofZ at h
  cases e : uOff (uMd wo kin u) (pu u) (pd u) (digz (zU wo kin pu pd) s u) with
  | none => rw [e] at h; cases h
  | some n =>
    rw [e] at h
    cases h
    exact mv_lt hu (fun v _ => zU_pos) (uOff_lt uMd_lt (hpd u hu) (show digz (zU wo kin pu pd) s u < zU wo kin pu pd u from digz_lt zU_pos) e)
theorem onZ_lt {wo : Int32} {kin : Nat → Int32} {pu pd : Nat → Nat} {U : Nat} : ∀ u s t, u < U → onZ wo kin pu pd U u s = some t → t < pwz (zU wo kin pu pd) U := by
  intro u s t hu h
  unfold onZ at h
  cases e : uOn (uMd wo kin u) (pu u) (pd u) (digz (zU wo kin pu pd) s u) with
  | none => rw [e] at h; cases h
  | some n =>
    rw [e] at h
    cases h
    exact mv_lt hu (fun v _ => zU_pos) (uOn_lt uMd_lt (show digz (zU wo kin pu pd) s u < zU wo kin pu pd u from digz_lt zU_pos) e)
theorem TT_congr2 {of_ on_ : Nat → Nat → Option Nat} {ss U : Nat} (ho : ∀ u s t, u < U → of_ u s = some t → t < ss) (hn : ∀ u s t, u < U → on_ u s = some t → t < ss) : ∀ (k : Nat) (g g' : Nat → Nat), k ≤ U → (∀ s, s < ss → g s = g' s) → ∀ s, s < ss → TT of_ on_ k g s = TT of_ on_ k g' s := by
  intro k
  induction k with
  | zero => intro g g' _ h s hs; exact h s hs
  | succ k ih =>
    intro g g' hk h s hs
    refine ih _ _ (by omega) (fun t ht => ?_) s hs
    show min (gO g (of_ k t)) (gO g (on_ k t)) = min (gO g' (of_ k t)) (gO g' (on_ k t))
    have e1 : gO g (of_ k t) = gO g' (of_ k t) := by
      cases e : of_ k t with
      | none => rfl
      | some x => exact h x (ho k t x (by omega) e)
    have e2 : gO g (on_ k t) = gO g' (on_ k t) := by
      cases e : on_ k t with
      | none => rfl
      | some x => exact h x (hn k t x (by omega) e)
    rw [e1, e2]
theorem WW_congr2 {of_ on_ : Nat → Nat → Option Nat} {sc sc' : Nat → Nat} {U ss : Nat} {P : Nat → Nat → Nat} (ho : ∀ u s t, u < U → of_ u s = some t → t < ss) (hn : ∀ u s t, u < U → on_ u s = some t → t < ss) (hs : ∀ s, s < ss → sc s = sc' s) : ∀ (n : Nat) (g g' : Nat → Nat), (∀ s, s < ss → g s = g' s) → ∀ s, s < ss → WW of_ on_ sc U P n g s = WW of_ on_ sc' U P n g' s := by
  intro n
  induction n with
  | zero => intro g g' h s hs; exact h s hs
  | succ n ih =>
    intro g g' h s hs2
    exact ih _ _ (fun t ht => TT_congr2 ho hn U _ _ (Nat.le_refl _) (fun x hx => by show fad (P n (sc x)) (g x) = fad (P n (sc' x)) (g' x); rw [hs x hx, h x hx]) t ht) s hs2
theorem fb_spec {con cst : Nat → Int32} {cpa : Nat → Int64} {sc sz wt : Nat → Nat} {tof ton : Nat → Nat → Int32} {w3 : Nat → Nat → Int64} {pa ps H U : Nat} {res : Int32} {dem kin hig pri flo sro sco : Nat → Int32} {ord : Nat → Nat} {wo : Int32} {pu pd : Nat → Nat} (hU : U ≤ 4) (hH : H ≤ 6) (hpu : ∀ j, j < U → 1 ≤ pu j ∧ pu j ≤ 3) (hpd : ∀ j, j < U → 1 ≤ pd j ∧ pd j ≤ 3) (hne : pa ≠ ps)
    (hcon : ∀ c, c < 81 → ∃ o, o < 16 ∧ con c = nI o) (hHC : ∀ h c, h < 6 → c < 81 → f_Day_hourCost U res hig pri ord flo sro sco (dem h) (con c) (cst c) = -1000000 ∨ ∃ v, v ≤ 32767 ∧ f_Day_hourCost U res hig pri ord flo sro sco (dem h) (con c) (cst c) = nI v) :
    (f_Search_findBest con cst cpa sc sz wt tof ton w3 pa ps H U res dem kin hig pri ord flo sro sco wo pu pd).1 = encB (DZ wo kin pu pd U (PH con cst U res dem hig pri ord flo sro sco) H) := by
  obtain ⟨sc', sz', wt', tof', ton', ss', sk', e, hI⟩ := ls_spec (wo := wo) (kin := kin) (sc := sc) (sz := sz) (wt := wt) (tof := tof) (ton := ton) hU hpu hpd
  have hss : ss' ≤ 1296 := by
    rw [hI.2.1]
    exact Nat.le_trans (pwz_le6 (fun u hu => zU_le (hpu u hu).2 (hpd u hu).2)) (pow6_4s hU)
  have hs0 := lsI_s0 hI
  have hsk := lsI_sk hI hU
  have hsc : ∀ s, s < ss' → sc' s < sk' := fun s hs => by
    rw [hI.2.2.2.2 s hs, hI.2.2.1]
    exact scS_lt (fun u own => uAct_le) U
  have hCC := cc_spec (con := con) (cst := cst) (dem := dem) hcon hHC hsk
  obtain ⟨R, w1, w2, w3', w4⟩ := walk_spec (cpa := cpa) (w3 := w3) (su := U) (sk := sk') (P := PH con cst U res dem hig pri ord flo sro sco) hH hne hs0 (tr_of hI hss (fun j hj => (hpd j hj).1)) (tr_on hI hss) (fun cp k s hk hs => hCC cp k (sc' s) (by omega) (hsc s hs)) H (Nat.le_refl _)
  unfold f_Search_findBest
  rw [e]
  rw [lt_eq, lt_eq]
  dsimp only
  rw [L22_spec w1 ss' (Nat.le_refl _)]
  have hD : mnF R ss' = DZ wo kin pu pd U (PH con cst U res dem hig pri ord flo sro sco) H := by
    have h5 := w4 (fun _ => 0)
    rw [mnF_congr (g := R) (fun t ht => fad_r0 (w1 t ht).2), mn_A0 hs0 (WW_le H _ (fun _ => Nat.zero_le _) 0)] at h5
    rw [h5]
    refine WW_congr2 (ss := ss') (fun u s t hu h => ?_) (fun u s t hu h => ?_) (fun s hs => hI.2.2.2.2 s hs) H _ _ (fun _ _ => rfl) 0 hs0
    · rw [hI.2.1]; exact ofZ_lt (fun j hj => (hpd j hj).1) u s t hu h
    · rw [hI.2.1]; exact onZ_lt u s t hu h
  rw [hD]
  unfold encB
  have hle : DZ wo kin pu pd U (PH con cst U res dem hig pri ord flo sro sco) H ≤ FARn := by rw [← hD]; exact mnF_far _
  by_cases c : DZ wo kin pu pd U (PH con cst U res dem hig pri ord flo sro sco) H < FARn
  · rw [if_pos ((farlt hle).mpr c), if_pos c]
  · rw [if_neg (fun z => c ((farlt hle).mp z)), if_neg c]
