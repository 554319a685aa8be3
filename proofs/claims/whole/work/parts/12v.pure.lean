theorem best_eq {W : Nat → Nat → Int32} {wi U H : Nat} {res lost wo : Int32} {dem kin hig pri flo sro sco : Nat → Int32} {ord : Nat → Nat} {fl hi sr pr sc pu pd dd : Nat → Nat} {r : Nat} {con cst : Nat → Int32} {cpa : Nat → Int64} {ssc ssz swt : Nat → Nat} {tof ton : Nat → Nat → Int32} {w3 : Nat → Nat → Int64} {pa ps : Nat} {gvn costs lst sets : Nat → Int32}
    (hU : U ≤ 4) (hH : H ≤ 6) (hne : pa ≠ ps) (hpu : ∀ j, j < U → 1 ≤ pu j ∧ pu j ≤ 3) (hpd : ∀ j, j < U → 1 ≤ pd j ∧ pd j ≤ 3)
    (hWu : ∀ j, j < U → W wi ((9 + (8 * j)) + 5) = nI (pu j)) (hWd : ∀ j, j < U → W wi ((9 + (8 * j)) + 6) = nI (pd j)) (hmd : ∀ j, j < U → uMd lost (fun v => W wi (9 + 8 * v)) j = uMd wo kin j)
    (hcon : ∀ c, c < 81 → con c = nI (onC c)) (hcst : ∀ c, c < 81 → cst c = nI (stC c))
    (hd : ∀ h, h < H → (W wi) (3 + h) = nI (dd h) ∧ dem h = nI (dd h) ∧ dd h ≤ 100) (hr : (W wi) 2 = nI r) (hr2 : r ≤ 100) (hres : res = nI r) (hord : arr ord U = BL pr U 9) (hu : uOK (W wi) hig pri flo sro sco fl hi sr pr sc U) (hriv : ∀ u, u < U → uMd wo kin u = 1 → sr u = hi u ∧ sc u = 0) :
    ∃ D : Nat, bdv D ∧ (f_Search_findBest con cst cpa ssc ssz swt tof ton w3 pa ps H U res dem kin hig pri ord flo sro sco wo pu pd).1 = encB D ∧
      (f_Model_bestCost W gvn costs lst sets lost wi U H).1 = f_Search_costOf (encB D) ∧
      (f_Model_bestCost W gvn costs lst sets lost wi U H).2.2.2.2.2 = encM D ∧
      (D < FARn → ∀ h, h < H → (f_Model_bestCost W gvn costs lst sets lost wi U H).2.2.2.2.1 h = f_Search_unitsIn (encB D) (nI h)) := by
  have hv := hv_all (sr := sr) (sc := sc) hU hH hd hr hr2 hres hord hu
  have hP := PD_par (H := H) hv
  have hcost := hcost_eq (wo := wo) (kin := kin) (gvn := gvn) (costs := costs) hU hH hd hr hr2 hres hord hu hriv
  have hPx := PD_x (H := H) (res := res) (dem := dem) (hig := hig) (pri := pri) (ord := ord) (flo := flo) (sro := sro) (sco := sco) (wo := wo) (kin := kin) hU
  obtain ⟨b1, b2, b3⟩ := bc_spec (lst := lst) (sets := sets) hU hH hpu hpd hWu hWd hmd hP hcost
  refine ⟨DZ wo kin pu pd U (PD U H res dem hig pri ord flo sro sco) H, b3, ?_, b1, b2, ?_⟩
  · exact fb_gen hU hH hpu hpd hne (PD_cc hU hH hcon hcst hv)
  · intro hD h hh
    have e : encB (DZ wo kin pu pd U (PD U H res dem hig pri ord flo sro sco) H) = lN (DZ wo kin pu pd U (PD U H res dem hig pri ord flo sro sco) H) := if_pos hD
    rw [e, unitsIn_nat hD (by omega)]
    exact sets_spec (lst := lst) (sets := sets) hU hH hpu hpd hWu hWd hmd hP hcost hPx hD h hh
