section PATH2
variable {W : Nat → Nat → Int32} {costs T : Nat → Int32} {wi U Hh : Nat} {lost wo : Int32} {kin : Nat → Int32} {pu pd : Nat → Nat} {P : Nat → Nat → Nat}
theorem path (hU : U ≤ 4) (hH : Hh ≤ 6) (hpu : ∀ j, j < U → 1 ≤ pu j ∧ pu j ≤ 3) (hpd : ∀ j, j < U → 1 ≤ pd j ∧ pd j ≤ 3)
    (hWu : ∀ j, j < U → W wi ((9 + (8 * j)) + 5) = nI (pu j)) (hWd : ∀ j, j < U → W wi ((9 + (8 * j)) + 6) = nI (pd j)) (hmd : ∀ j, j < U → uMd lost (fun v => W wi (9 + 8 * v)) j = uMd wo kin j) (hP : ∀ h c, h < 6 → parB h (P h c))
    (hcost : ∀ h x m, h < Hh → x < 2 ^ U → costs (81 * h + numz three (wdM x m) U) = encM (P h (numz three (wdC wo kin x m) U)))
    (hPx : ∀ h x m, h < Hh → x < 2 ^ U → P h (numz three (wdC wo kin x m) U) = FARn ∨ ∃ a, P h (numz three (wdC wo kin x m) U) = a * 16777216 + x * 2 ^ (4 * (5 - h)))
    (hT0 : ∀ m, m < 6 ^ U → T (1296 * Hh + m) = 0) (hT : ∀ h m, h < Hh → m < 6 ^ U → T (1296 * h + m) = (f_Model_finds_L76 W costs T wi U lost (2 ^ U) h m (2 ^ U + 1) 100000000 0).1) {bst : Int32} (hbst : bst < 100000000) :
    ∀ (n m h s : Nat) (sets : Nat → Int32), Hh - h < n → h ≤ Hh → m < 6 ^ U → (h = 0 → m = 0) → s < pwz (zU wo kin pu pd) U → (∀ u, u < U → relB (uMd wo kin u) (pu u) (pd u) (m / 6 ^ u % 6) (digz (zU wo kin pu pd) s u) = true) → SV (ofZ wo kin pu pd U) (onZ wo kin pu pd U) (scZ wo kin pu pd U) U P Hh (Hh - h) s < FARn →
      (∀ h', h ≤ h' → h' < Hh → (f_Model_finds_L173 W costs T bst wi U Hh lost n m h sets).2.2 h' = nI (SV (ofZ wo kin pu pd U) (onZ wo kin pu pd U) (scZ wo kin pu pd U) U P Hh (Hh - h) s / 2 ^ (4 * (5 - h')) % 16)) ∧ ∀ h', h' < h → (f_Model_finds_L173 W costs T bst wi U Hh lost n m h sets).2.2 h' = sets h' := by
  intro n
  induction n with
  | zero => intro m h s sets hn; exact absurd hn (Nat.not_lt_zero _)
  | succ n ih =>
    intro m h s sets hn hh hm hm0 hs hrel hD
    have h2 := pow2_4 hU
    have h6 := pow6_4 hU
    rw [f_Model_finds_L173]
    by_cases c : nI h < nI Hh
    · have hlt := nI_ltX c (by omega) (by omega)
      rw [if_pos c, if_pos hbst]
      rw [show Hh - h = (Hh - (h + 1)) + 1 by omega] at hD
      obtain ⟨x, nx, t', a, e1, e2, e3, e4, e5, e6, e7, e8, e9⟩ := choice hU hH hpu hpd hWu hWd hmd hP hcost hPx hT0 hT (r := Hh - (h + 1)) (m := m) (s := s) (by omega) hm (by
        rcases Nat.eq_zero_or_pos h with z | z
        · exact Or.inr (hm0 z)
        · exact Or.inl (by omega)) hs hrel hD
      rw [show Hh - (Hh - (h + 1) + 1) = h by omega] at e1 e7 e9
      rw [e1, e3, nI_clamp (by omega)]
      obtain ⟨i1, i2⟩ := ih nx (h + 1) t' (upd sets h (nI x)) (by omega) hlt e4 (fun z => absurd z (by omega)) e5 e6 e8
      rw [show Hh - h = (Hh - (h + 1)) + 1 by omega]
      refine ⟨fun h' ha hb => ?_, fun h' ha => ?_⟩
      · by_cases q : h' = h
        · subst q
          rw [i2 h' (by omega), pk_us, e7, ext_bits (by omega) (by omega) e9]
        · rw [i1 h' (by omega) hb, e7, low_bits (by omega) (by omega)]
      · rw [i2 h' (by omega), pk_un (by omega)]
    · rw [if_neg c]
      have hge : Hh ≤ h := Nat.le_of_not_lt (fun q => c (nI_lt q (by omega)))
      exact ⟨fun h' ha hb => absurd hb (by omega), fun h' _ => rfl⟩
end PATH2
theorem sets_spec {W : Nat → Nat → Int32} {gvn costs lst sets : Nat → Int32} {wi U Hh : Nat} {lost wo : Int32} {kin : Nat → Int32} {pu pd : Nat → Nat} {P : Nat → Nat → Nat} (hU : U ≤ 4) (hH : Hh ≤ 6) (hpu : ∀ j, j < U → 1 ≤ pu j ∧ pu j ≤ 3) (hpd : ∀ j, j < U → 1 ≤ pd j ∧ pd j ≤ 3)
    (hWu : ∀ j, j < U → W wi ((9 + (8 * j)) + 5) = nI (pu j)) (hWd : ∀ j, j < U → W wi ((9 + (8 * j)) + 6) = nI (pd j)) (hmd : ∀ j, j < U → uMd lost (fun v => W wi (9 + 8 * v)) j = uMd wo kin j) (hP : ∀ h c, h < 6 → parB h (P h c))
    (hcost : ∀ h x m, h < Hh → x < 2 ^ U → (f_Model_fillsCosts W gvn costs wi U Hh).2 (81 * h + numz three (wdM x m) U) = encM (P h (numz three (wdC wo kin x m) U)))
    (hPx : ∀ h x m, h < Hh → x < 2 ^ U → P h (numz three (wdC wo kin x m) U) = FARn ∨ ∃ a, P h (numz three (wdC wo kin x m) U) = a * 16777216 + x * 2 ^ (4 * (5 - h)))
    (hD : DZ wo kin pu pd U P Hh < FARn) : ∀ h, h < Hh → (f_Model_bestCost W gvn costs lst sets lost wi U Hh).2.2.2.2.1 h = nI (DZ wo kin pu pd U P Hh / 2 ^ (4 * (5 - h)) % 16) := by
  intro h hh
  obtain ⟨-, b2, b3⟩ := bc_spec (lst := lst) (sets := sets) hU hH hpu hpd hWu hWd hmd hP hcost
  have hbst : (f_Model_bestCost W gvn costs lst sets lost wi U Hh).2.2.2.2.2 < 100000000 := by
    rw [b2, ← encM_far]
    exact (encM_lt b3 (Or.inr rfl)).mpr ⟨hD, Or.inl rfl⟩
  have hz : ∀ u, u < U → relB (uMd wo kin u) (pu u) (pd u) (0 / 6 ^ u % 6) (digz (zU wo kin pu pd) 0 u) = true := fun u hu => by
    have e1 : 0 / 6 ^ u % 6 = 0 := by rw [Nat.zero_div]
    have e2 : digz (zU wo kin pu pd) 0 u = 0 := by unfold digz; rw [Nat.zero_div, Nat.zero_mod]
    rw [e1, e2]; exact rel_0
  rw [DZ_SV] at hD
  have hp := (path (T := TBL W (f_Model_fillsCosts W gvn costs wi U Hh).2 lst lost wi U Hh) hU hH hpu hpd hWu hWd hmd hP hcost hPx (tbl_0 hU hH) (tbl_r hU hH) (bst := TBL W (f_Model_fillsCosts W gvn costs wi U Hh).2 lst lost wi U Hh 0) hbst (Hh + 1) 0 0 0 sets (by omega) (Nat.zero_le _) (Nat.pow_pos (by decide)) (fun _ => rfl) (pwz_pos (fun u _ => zU_pos)) hz (by rw [Nat.sub_zero]; exact hD)).1 h (Nat.zero_le _) hh
  rw [Nat.sub_zero] at hp
  rw [DZ_SV, ← hp]
  rfl
