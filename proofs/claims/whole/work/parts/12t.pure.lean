theorem fb_gen {con cst : Nat → Int32} {cpa : Nat → Int64} {sc sz wt : Nat → Nat} {tof ton : Nat → Nat → Int32} {w3 : Nat → Nat → Int64} {pa ps H U : Nat} {res : Int32} {dem kin hig pri flo sro sco : Nat → Int32} {ord : Nat → Nat} {wo : Int32} {pu pd : Nat → Nat} {P : Nat → Nat → Nat} (hU : U ≤ 4) (hH : H ≤ 6) (hpu : ∀ j, j < U → 1 ≤ pu j ∧ pu j ≤ 3) (hpd : ∀ j, j < U → 1 ≤ pd j ∧ pd j ≤ 3) (hne : pa ≠ ps)
    (hCC : ∀ (cp : Nat → Int64) k c, k < H → c < 3 ^ U → f_Search_costCombos con cst cp (3 ^ U) U res dem hig pri ord flo sro sco k c = lN (P k c) ∧ P k c ≤ FARn ∧ (P k c < FARn → P k c ≤ 1099511627776)) :
    (f_Search_findBest con cst cpa sc sz wt tof ton w3 pa ps H U res dem kin hig pri ord flo sro sco wo pu pd).1 = encB (DZ wo kin pu pd U P H) := by
  obtain ⟨sc', sz', wt', tof', ton', ss', sk', e, hI⟩ := ls_spec (wo := wo) (kin := kin) (sc := sc) (sz := sz) (wt := wt) (tof := tof) (ton := ton) hU hpu hpd
  have hss : ss' ≤ 1296 := by
    rw [hI.2.1]
    exact Nat.le_trans (pwz_le6 (fun u hu => zU_le (hpu u hu).2 (hpd u hu).2)) (pow6_4s hU)
  have hs0 := lsI_s0 hI
  have hsc : ∀ s, s < ss' → sc' s < 3 ^ U := fun s hs => by
    rw [hI.2.2.2.2 s hs]
    exact scS_lt (fun u own => uAct_le) U
  have hsk : sk' = 3 ^ U := hI.2.2.1
  subst hsk
  obtain ⟨R, w1, w2, w3', w4⟩ := walk_spec (cpa := cpa) (w3 := w3) (su := U) (sk := 3 ^ U) (P := P) hH hne hs0 (tr_of hI hss (fun j hj => (hpd j hj).1)) (tr_on hI hss) (fun cp k s hk hs => hCC cp k (sc' s) hk (hsc s hs)) H (Nat.le_refl _)
  unfold f_Search_findBest
  rw [e]
  rw [lt_eq, lt_eq]
  dsimp only
  rw [L22_spec w1 ss' (Nat.le_refl _)]
  have hD : mnF R ss' = DZ wo kin pu pd U P H := by
    have h5 := w4 (fun _ => 0)
    rw [mnF_congr (g := R) (fun t ht => fad_r0 (w1 t ht).2), mn_A0 hs0 (WW_le H _ (fun _ => Nat.zero_le _) 0)] at h5
    rw [h5]
    refine WW_congr2 (ss := ss') (fun u s t hu h => ?_) (fun u s t hu h => ?_) (fun s hs => hI.2.2.2.2 s hs) H _ _ (fun _ _ => rfl) 0 hs0
    · rw [hI.2.1]; exact ofZ_lt (fun j hj => (hpd j hj).1) u s t hu h
    · rw [hI.2.1]; exact onZ_lt u s t hu h
  rw [hD]
  unfold encB
  have hle : DZ wo kin pu pd U P H ≤ FARn := by rw [← hD]; exact mnF_far _
  by_cases c : DZ wo kin pu pd U P H < FARn
  · rw [if_pos ((farlt hle).mpr c), if_pos c]
  · rw [if_neg (fun z => c ((farlt hle).mp z)), if_neg c]
def hcN (U : Nat) (res : Int32) (dem hig pri : Nat → Int32) (ord : Nat → Nat) (flo sro sco : Nat → Int32) (h c : Nat) : Int32 := f_Day_hourCost U res hig pri ord flo sro sco (dem h) (nI (onC c)) (nI (stC c))
def PD (U H : Nat) (res : Int32) (dem hig pri : Nat → Int32) (ord : Nat → Nat) (flo sro sco : Nat → Int32) (h c : Nat) : Nat := if h < H ∧ c < 81 then (if hcN U res dem hig pri ord flo sro sco h c = (-1000000 : Int32) then FARn else (hcN U res dem hig pri ord flo sro sco h c).toNatClampNeg * 16777216 + onC c * 2 ^ (4 * (5 - h))) else FARn
section PDS
variable {U H : Nat} {res : Int32} {dem hig pri flo sro sco : Nat → Int32} {ord : Nat → Nat}
theorem PD_par (hv : ∀ h c, h < H → c < 81 → hcN U res dem hig pri ord flo sro sco h c = -1000000 ∨ ∃ v, v ≤ 32767 ∧ hcN U res dem hig pri ord flo sro sco h c = nI v) : ∀ h c, h < 6 → parB h (PD U H res dem hig pri ord flo sro sco h c) := by
  intro h c _
  unfold PD
  by_cases a : h < H ∧ c < 81
  · rw [if_pos a]
    by_cases b : hcN U res dem hig pri ord flo sro sco h c = (-1000000 : Int32)
    · rw [if_pos b]; exact Or.inl rfl
    · rw [if_neg b]
      rcases hv h c a.1 a.2 with z | ⟨v, h1, h2⟩
      · exact absurd z b
      · rw [h2, nI_clamp (by omega)]
        exact Or.inr ⟨v, onC c, h1, onC_lt, rfl⟩
  · rw [if_neg a]; exact Or.inl rfl
theorem PD_cc {con cst : Nat → Int32} (hU : U ≤ 4) (hH : H ≤ 6) (hcon : ∀ c, c < 81 → con c = nI (onC c)) (hcst : ∀ c, c < 81 → cst c = nI (stC c)) (hv : ∀ h c, h < H → c < 81 → hcN U res dem hig pri ord flo sro sco h c = -1000000 ∨ ∃ v, v ≤ 32767 ∧ hcN U res dem hig pri ord flo sro sco h c = nI v) :
    ∀ (cp : Nat → Int64) k c, k < H → c < 3 ^ U → f_Search_costCombos con cst cp (3 ^ U) U res dem hig pri ord flo sro sco k c = lN (PD U H res dem hig pri ord flo sro sco k c) ∧ PD U H res dem hig pri ord flo sro sco k c ≤ FARn ∧ (PD U H res dem hig pri ord flo sro sco k c < FARn → PD U H res dem hig pri ord flo sro sco k c ≤ 1099511627776) := by
  intro cp k c hk hc
  have h81 : c < 81 := Nat.lt_of_lt_of_le hc (pow3_4 hU)
  have e : f_Search_costCombos con cst cp (3 ^ U) U res dem hig pri ord flo sro sco k c = _ := cc_L (3 ^ U) c
  rw [e, iteT hc, hcon c h81, hcst c h81]
  have hh := hv k c hk h81
  unfold PD
  rw [iteT (show k < H ∧ c < 81 from ⟨hk, h81⟩)]
  show (if hcN U res dem hig pri ord flo sro sco k c = (-1000000 : Int32) then (1152921504606846976 : Int64) else ((hcN U res dem hig pri ord flo sro sco k c).toInt64 <<< ((24 : Int32).toInt64 &&& 63)) + ((nI (onC c)).toInt64 <<< ((f_Search_shiftOf (nI k)).toInt64 &&& 63))) = _ ∧ _
  by_cases n : hcN U res dem hig pri ord flo sro sco k c = (-1000000 : Int32)
  · rw [if_pos n, if_pos n]
    exact ⟨rfl, Nat.le_refl _, fun z => absurd z (Nat.lt_irrefl _)⟩
  · rw [if_neg n, if_neg n]
    rcases hh with z | ⟨v, hv1, ev⟩
    · exact absurd z n
    · have ho := onC_lt (w := c)
      rw [ev, nI_clamp (by omega), nI_l (by omega), nI_l (by omega), shiftOf_nat (by omega), wb_shl _ (by omega)]
      have e24 : lN v <<< ((24 : Int32).toInt64 &&& 63) = lN (v * 16777216) := wb_shl v (k := 24) (by decide)
      rw [e24, lN_add]
      have hb := ph_le (h := k) hv1 ho
      exact ⟨rfl, Nat.le_trans hb (Nat.le_of_ble_eq_true rfl), fun _ => hb⟩
end PDS
theorem wdM_lt {x m u : Nat} : wdM x m u < 3 := by unfold wdM; (repeat' split) <;> omega
theorem wdC_lt {wo : Int32} {kin : Nat → Int32} {x m u : Nat} : wdC wo kin x m u < 3 := by unfold wdC; (repeat' split) <;> omega
theorem wdM_0 {x m u : Nat} : wdM x m u = 0 ↔ ¬ x / 2 ^ u % 2 = 1 := by
  unfold wdM
  by_cases c : x / 2 ^ u % 2 = 1
  · rw [if_pos c]
    refine ⟨fun h => ?_, fun h => absurd c h⟩
    exfalso
    split at h <;> omega
  · rw [if_neg c]; exact ⟨fun _ => c, fun _ => rfl⟩
theorem wdC_0 {wo : Int32} {kin : Nat → Int32} {x m u : Nat} : wdC wo kin x m u = 0 ↔ ¬ x / 2 ^ u % 2 = 1 := by
  unfold wdC
  by_cases c : x / 2 ^ u % 2 = 1
  · rw [if_pos c]
    refine ⟨fun h => ?_, fun h => absurd c h⟩
    exfalso
    (repeat' split at h) <;> omega
  · rw [if_neg c]; exact ⟨fun _ => c, fun _ => rfl⟩
theorem stC_bt {wd : Nat → Nat} {U u : Nat} (hwd : ∀ v, wd v < 3) (hU : U ≤ 4) (hu : u < U) : bt_ (stC (numz three wd U)) u = decide (wd u = 2) := by
  unfold stC
  rw [bt_num (fun v _ => by show (if _ then 1 else 0) < 2; split <;> decide) (by omega), dig3 hwd u, if_pos hu]
  by_cases c : wd u = 2
  · rw [if_pos c, decide_eq_true c]; rfl
  · rw [if_neg c, decide_eq_false c]; rfl
