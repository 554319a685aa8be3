theorem hour_or {W : Nat → Nat → Int32} {wi U x y h d r : Nat} {res : Int32} {hig pri flo sro sco gvn : Nat → Int32} {ord : Nat → Nat} {fl hi sr pr sc : Nat → Nat} (hx : x < 2 ^ 31) (hy : y < 2 ^ 31) (hU : U ≤ 4) (hd : (W wi) (3 + h) = nI d) (hd2 : d ≤ 100) (hr : (W wi) 2 = nI r) (hr2 : r ≤ 100) (hres : res = nI r) (hord : arr ord U = BL pr U 9) (hu : uOK (W wi) hig pri flo sro sco fl hi sr pr sc U) (hsub : ∀ u, u < U → bt_ y u = true → bt_ x u = true) :
    (f_Model_isMet (W wi) h (nI x) (nI y) U = 0 ∧ f_Day_hourCost U res hig pri ord flo sro sco (nI d) (nI x) (nI y) = -1000000) ∨ (¬ f_Model_isMet (W wi) h (nI x) (nI y) U = 0 ∧ ∃ v, v ≤ 32767 ∧ f_Day_hourCost U res hig pri ord flo sro sco (nI d) (nI x) (nI y) = nI v ∧ (f_Model_shares W gvn h (nI x) (nI y) wi U).1 = nI v) := by
  obtain ⟨h1, h2⟩ := hour_eq (gvn := gvn) hx hy hU hd hd2 hr hr2 hres hord hu hsub
  by_cases c : f_Model_isMet (W wi) h (nI x) (nI y) U = 0
  · rw [if_pos c] at h1
    exact Or.inl ⟨c, h1⟩
  · rw [if_neg c] at h1
    have hSF := sf_le (x := x) (B := 20) hU (fun u h => (hu u h).2.2.1)
    have hSR := sf_le (x := x) (g := rfN y hi sr) (B := 30) hU (fun u h => rfN_le (hu u h).2.2.2.1 (hu u h).2.2.2.2.1)
    have hm := met_eq (f := W wi) (h := h) hx hy hU (fun u h => ⟨(hu u h).2.1.1, (hu u h).2.1.2.2.1, (hu u h).2.1.2.2.2.1⟩) hd hr (by omega) (by omega) (by omega) (by omega)
    have hn : ¬ (d < sumU (SFN x fl) U ∨ sumU (SFN x (rfN y hi sr)) U < d + r) := fun z => c (by rw [hm, if_pos z])
    have hs := shares_eq (W := W) (wi := wi) (h := h) (gvn := gvn) (sc := sc) hx hy hU hd (by omega) (show sumU (SFN x fl) U ≤ d by omega) (fun u h => ⟨(hu u h).2.1.1, (hu u h).2.1.2.1, (hu u h).2.1.2.2.1, (hu u h).2.1.2.2.2.1, (hu u h).2.1.2.2.2.2, by have := (hu u h).2.2.2.2.2.2.2.2.1; omega, (hu u h).2.2.2.2.2.1, (hu u h).2.2.2.2.2.2.1, by have := (hu u h).2.2.2.1; omega, by have := (hu u h).2.2.2.2.1; omega⟩)
    have hlen : (BL pr U 9).length = U := by rw [← hord, arr_len]
    have hb := fold_bd (x := x) (fl := fl) (pr := pr) (rf := rfN y hi sr) (BL pr U 9) (d - sumU (SFN x fl) U) 0 (fun u h => by
      have hlt := (mem_BL _ h).1
      have hk := (hu u hlt).2.2
      exact ⟨by omega, rfN_le (by omega) (by omega), by omega⟩)
    rw [hlen, Nat.zero_add] at hb
    have hb2 : U * 1800 ≤ 4 * 1800 := Nat.mul_le_mul_right _ hU
    have he : sumU (SFN y sc) U ≤ 4 * 40 := sf_le hU (fun u h => (hu u h).2.2.2.2.2.2.2.2.2)
    exact Or.inr ⟨c, _, by omega, h1.trans hs, hs⟩
theorem encM_par {h v x : Nat} (hh : h ≤ 5) (hv : v ≤ 32767) (hx : x < 16) : encM (v * 16777216 + x * 2 ^ (4 * (5 - h))) = nI v := by
  obtain ⟨e1, e2, e3⟩ := e_facts hh
  have hb := ph_le (h := h) hv hx
  have hq := (qr (a := v) (oe := x * 2 ^ (4 * (5 - h))) (w := 0) (e := 2 ^ (4 * (5 - h))) (by rw [Nat.zero_mod]; exact e1) (Nat.mul_le_mul_right _ (by omega)) e2).2.2
  unfold encM
  rw [if_pos (show v * 16777216 + x * 2 ^ (4 * (5 - h)) < FARn from Nat.lt_of_le_of_lt hb (Nat.le_of_ble_eq_true rfl))]
  show nI ((v * 16777216 + x * 2 ^ (4 * (5 - h))) / 16777216) = nI v
  rw [hq]
section BEST
variable {W : Nat → Nat → Int32} {wi U H : Nat} {res lost wo : Int32} {dem kin hig pri flo sro sco : Nat → Int32} {ord : Nat → Nat} {fl hi sr pr sc pu pd dd : Nat → Nat} {r : Nat}
theorem hv_all (hU : U ≤ 4) (hH : H ≤ 6) (hd : ∀ h, h < H → (W wi) (3 + h) = nI (dd h) ∧ dem h = nI (dd h) ∧ dd h ≤ 100) (hr : (W wi) 2 = nI r) (hr2 : r ≤ 100) (hres : res = nI r) (hord : arr ord U = BL pr U 9) (hu : uOK (W wi) hig pri flo sro sco fl hi sr pr sc U) : ∀ h c, h < H → c < 81 → hcN U res dem hig pri ord flo sro sco h c = -1000000 ∨ ∃ v, v ≤ 32767 ∧ hcN U res dem hig pri ord flo sro sco h c = nI v := by
  intro h c hh _
  obtain ⟨d1, d2, d3⟩ := hd h hh
  unfold hcN
  rw [d2]
  have ho := onC_lt (w := c)
  have hs := stC_lt (w := c)
  refine (hour_eq (gvn := dem) (by omega) (by omega) hU d1 d3 hr hr2 hres hord hu (fun u huu hb => ?_)).2
  unfold stC at hb
  rw [bt_num (fun v _ => by show (if _ then 1 else 0) < 2; split <;> decide) (by omega)] at hb
  unfold onC
  rw [bt_num (fun v _ => by show (if _ then 0 else 1) < 2; split <;> decide) (by omega)]
  have hb2 := of_decide_eq_true hb
  refine decide_eq_true ?_
  by_cases z : c / 3 ^ u % 3 = 2
  · rw [if_neg (by omega)]
  · rw [if_neg z] at hb2; exact absurd hb2 (by decide)
theorem hcost_eq {gvn costs : Nat → Int32} (hU : U ≤ 4) (hH : H ≤ 6) (hd : ∀ h, h < H → (W wi) (3 + h) = nI (dd h) ∧ dem h = nI (dd h) ∧ dd h ≤ 100) (hr : (W wi) 2 = nI r) (hr2 : r ≤ 100) (hres : res = nI r) (hord : arr ord U = BL pr U 9) (hu : uOK (W wi) hig pri flo sro sco fl hi sr pr sc U) (hriv : ∀ u, u < U → uMd wo kin u = 1 → sr u = hi u ∧ sc u = 0) :
    ∀ h x m, h < H → x < 2 ^ U → (f_Model_fillsCosts W gvn costs wi U H).2 (81 * h + numz three (wdM x m) U) = encM (PD U H res dem hig pri ord flo sro sco h (numz three (wdC wo kin x m) U)) := by
  intro h x m hh hx
  obtain ⟨d1, d2, d3⟩ := hd h hh
  have h2 := pow2_4 hU
  have hwM : numz three (wdM x m) U < 3 ^ U := by rw [← pw3]; exact numz_lt (fun u _ => wdM_lt)
  have hwC : numz three (wdC wo kin x m) U < 3 ^ U := by rw [← pw3]; exact numz_lt (fun u _ => wdC_lt)
  have h3 := pow3_4 hU
  have oM := onC_eq (wd := wdM x m) hU hx (fun u => wdM_lt) (fun u _ => wdM_0)
  have oC := onC_eq (wd := wdC wo kin x m) hU hx (fun u => wdC_lt) (fun u _ => wdC_0)
  obtain ⟨g, e⟩ := fc2 (W := W) (wi := wi) (U := U) (gvn := gvn) (costs := costs) H h (numz three (wdM x m) U) hh (by omega)
  obtain ⟨l1, l2, l3⟩ := L32_eq (U := U) (w := numz three (wdM x m) U) hU (by omega)
  rw [l1, l2, l3, iteT (show numz three (wdM x m) U < 3 ^ U from hwM), iteF (show ¬ (1 : Int32) = 0 by decide), oM] at e
  have e0 : (f_Model_fillsCosts W gvn costs wi U H).2 = (f_Model_fillsCosts_L2 W wi U gvn costs H).2 := rfl
  rw [e0, e]
  have hs1 := stC_lt (w := numz three (wdM x m) U)
  have hs2 := stC_lt (w := numz three (wdC wo kin x m) U)
  have hst := hour_st (f := W wi) (d := dd h) (r := r) (x := x) (y := stC (numz three (wdC wo kin x m) U)) (y' := stC (numz three (wdM x m) U)) (by omega) (by omega) (by omega) hU d3 hr2 hres hord hu (fun u huu => by
    by_cases z : uMd wo kin u = 1
    · exact Or.inr (hriv u huu z)
    · refine Or.inl ?_
      rw [stC_bt (fun v => wdC_lt) hU huu, stC_bt (fun v => wdM_lt) hU huu]
      have : wdC wo kin x m u = wdM x m u := by unfold wdC wdM; rw [if_neg z]
      rw [this])
  have hhc : hcN U res dem hig pri ord flo sro sco h (numz three (wdC wo kin x m) U) = f_Day_hourCost U res hig pri ord flo sro sco (nI (dd h)) (nI x) (nI (stC (numz three (wdM x m) U))) := by
    unfold hcN
    rw [d2, oC, hst]
  unfold PD
  rw [iteT (show h < H ∧ numz three (wdC wo kin x m) U < 81 from ⟨hh, by omega⟩), hhc, oC]
  rcases hour_or (W := W) (wi := wi) (h := h) (gvn := g) (x := x) (y := stC (numz three (wdM x m) U)) (by omega) (by omega) hU d1 d3 hr hr2 hres hord hu (fun u huu hb => by
      rw [stC_bt (fun v => wdM_lt) hU huu] at hb
      have hb2 := of_decide_eq_true hb
      refine decide_eq_true ?_
      by_cases z : x / 2 ^ u % 2 = 1
      · exact z
      · rw [(wdM_0 (x := x) (m := m) (u := u)).mpr z] at hb2; omega) with ⟨m1, m2⟩ | ⟨m1, v, m2, m3, m4⟩
  · rw [if_pos m1, if_pos m2, encM_far]
  · have hvn : ¬ nI v = (-1000000 : Int32) := fun z => by
      have h0 : ¬ nI v < 0 := nI_pos (by omega)
      rw [z] at h0
      exact h0 (by decide)
    rw [if_neg m1, m4, m3, if_neg hvn, nI_clamp (by omega), encM_par (by omega) m2 (by omega)]
theorem PD_x (hU : U ≤ 4) : ∀ h x m, h < H → x < 2 ^ U → PD U H res dem hig pri ord flo sro sco h (numz three (wdC wo kin x m) U) = FARn ∨ ∃ a, PD U H res dem hig pri ord flo sro sco h (numz three (wdC wo kin x m) U) = a * 16777216 + x * 2 ^ (4 * (5 - h)) := by
  intro h x m hh hx
  have oC := onC_eq (wd := wdC wo kin x m) hU hx (fun u => wdC_lt) (fun u _ => wdC_0)
  unfold PD
  rw [oC]
  (repeat' split) <;> first | exact Or.inl rfl | exact Or.inr ⟨_, rfl⟩
end BEST
