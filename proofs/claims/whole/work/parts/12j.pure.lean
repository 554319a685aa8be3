theorem cf_enc {W : Nat → Nat → Int32} {costs T : Nat → Int32} {wi U Hh : Nat} {lost wo : Int32} {kin : Nat → Int32} {pu pd : Nat → Nat} {P : Nat → Nat → Nat} (hU : U ≤ 4) (hH : Hh ≤ 6) (hpu : ∀ j, j < U → 1 ≤ pu j ∧ pu j ≤ 3) (hpd : ∀ j, j < U → 1 ≤ pd j ∧ pd j ≤ 3)
    (hWu : ∀ j, j < U → W wi ((9 + (8 * j)) + 5) = nI (pu j)) (hWd : ∀ j, j < U → W wi ((9 + (8 * j)) + 6) = nI (pd j)) (hmd : ∀ j, j < U → uMd lost (fun v => W wi (9 + 8 * v)) j = uMd wo kin j) (hP : ∀ h c, h < 6 → parB h (P h c))
    (hcost : ∀ h x m, h < Hh → x < 2 ^ U → costs (81 * h + numz three (wdM x m) U) = encM (P h (numz three (wdC wo kin x m) U)))
    (hT0 : ∀ m, m < 6 ^ U → T (1296 * Hh + m) = 0) (hT : ∀ h m, h < Hh → m < 6 ^ U → T (1296 * h + m) = (f_Model_finds_L76 W costs T wi U lost (2 ^ U) h m (2 ^ U + 1) 100000000 0).1)
    {r m s x : Nat} (hr : r + 1 ≤ Hh) (hs : s < pwz (zU wo kin pu pd) U) (hrel : ∀ u, u < U → relB (uMd wo kin u) (pu u) (pd u) (m / 6 ^ u % 6) (digz (zU wo kin pu pd) s u) = true) (hx : x < 2 ^ U) :
    (chC (ofZ wo kin pu pd U) (onZ wo kin pu pd U) U x s = none ∧ f_Model_costFrom W costs T (Hh - (r + 1)) m (nI x) lost wi U = 100000000) ∨
    ∃ nx t', chC (ofZ wo kin pu pd U) (onZ wo kin pu pd U) U x s = some t' ∧ t' < pwz (zU wo kin pu pd) U ∧ nx < 6 ^ U ∧ (∀ u, u < U → relB (uMd wo kin u) (pu u) (pd u) (nx / 6 ^ u % 6) (digz (zU wo kin pu pd) t' u) = true) ∧ scZ wo kin pu pd U t' = numz three (wdC wo kin x m) U ∧ f_Model_nextOf (W wi) m (nI x) lost U = nI nx ∧
      f_Model_costFrom W costs T (Hh - (r + 1)) m (nI x) lost wi U = encM (fad (P (Hh - (r + 1)) (numz three (wdC wo kin x m) U)) (SV (ofZ wo kin pu pd U) (onZ wo kin pu pd U) (scZ wo kin pu pd U) U P Hh r t')) := by
  have h2 := pow2_4 hU
  have hc := cs_L18 (W := W) (wi := wi) (x := x) (m := m) (lost := lost) hU (by omega) hpu hpd hWu hWd hmd hrel (U + 1) 0 0 s (by omega) (Nat.zero_le _) rfl hs ⟨fun _ => 0, rfl, fun u hu => absurd hu (Nat.not_lt_zero _)⟩ (fun u _ _ => rfl)
  simp only [Nat.pow_zero, Nat.div_one, show numz three (wdM x m) 0 = 0 from rfl] at hc
  have hpr := fd_pair (W := W) (wi := wi) (on := nI x) (lost := lost) hU (U + 1) 0 0 1 1 m 0 (by omega) (Nat.zero_le _) rfl (by decide)
  rcases hc with ⟨e1, e2⟩ | ⟨nd, t', a, b, c, e1, e2, e3, e4⟩
  · refine Or.inl ⟨e2, ?_⟩
    unfold f_Model_costFrom
    rw [e1]
  · have hnx : numz six nd U < 6 ^ U := by rw [← pw6]; exact numz_lt (fun u hu => (e4 u hu).1)
    have hdg : ∀ u, u < U → numz six nd U / 6 ^ u % 6 = nd u := fun u hu => by
      have := digz_num (z := six) (d := nd) (fun v hv => (e4 v hv).1) u hu
      unfold digz at this
      rw [pw6] at this
      exact this
    have hrl : ∀ u, u < U → relB (uMd wo kin u) (pu u) (pd u) (numz six nd U / 6 ^ u % 6) (digz (zU wo kin pu pd) t' u) = true := fun u hu => by rw [hdg u hu]; exact (e4 u hu).2.1
    have hi := dp_eq hU hH hpu hpd hWu hWd hmd hP hcost hT0 hT r (by omega) (numz six nd U) t' hnx (Or.inl (by omega)) e3 hrl
    rw [show Hh - r = Hh - (r + 1) + 1 by omega] at hi
    have hsc : scZ wo kin pu pd U t' = numz three (wdC wo kin x m) U := by
      unfold scZ
      rw [scS_num]
      exact numz_congr (fun u hu => (e4 u hu).2.2)
    have hv := SV_low (of_ := ofZ wo kin pu pd U) (on_ := onZ wo kin pu pd U) (sc := scZ wo kin pu pd U) (U := U) (P := P) hH hP r (by omega) t'
    rw [show Hh - r = Hh - (r + 1) + 1 by omega] at hv
    have hp := hP (Hh - (r + 1)) (numz three (wdC wo kin x m) U) (by omega)
    have hla := low_add (by omega) hp hv
    have hbp : bdv (P (Hh - (r + 1)) (numz three (wdC wo kin x m) U)) := by
      have := (low_add (by omega) hp (show lowB (Hh - (r + 1) + 1) 0 from Or.inr ⟨by rw [Nat.zero_div]; exact Nat.zero_le _, by rw [Nat.zero_mod]; exact Nat.two_pow_pos _⟩)).1
      have hple : P (Hh - (r + 1)) (numz three (wdC wo kin x m) U) ≤ FARn := by
        have hq := hp
        rcases hq with z | ⟨v, o, h1, h2, h3⟩
        · exact Nat.le_of_eq z
        · rw [h3]
          have hb := ph_le (v := v) (o := o) (h := Hh - (r + 1)) h1 h2
          exact Nat.le_trans hb (Nat.le_of_ble_eq_true rfl)
      rw [fad_r0 hple] at this
      exact bd_of this
    refine Or.inr ⟨numz six nd U, t', e2, e3, hnx, hrl, hsc, (hpr.2 _ _ _ _ _ _ e1).2, ?_⟩
    unfold f_Model_costFrom
    rw [e1]
    dsimp only
    rw [hi, hcost (Hh - (r + 1)) x m (by omega) hx]
    by_cases c1 : encM (P (Hh - (r + 1)) (numz three (wdC wo kin x m) U)) = 100000000
    · rw [if_pos c1, (encM_eqF hbp).mp c1, fad_far, encM_far]
    · rw [if_neg c1]
      by_cases c2 : encM (SV (ofZ wo kin pu pd U) (onZ wo kin pu pd U) (scZ wo kin pu pd U) U P Hh r t') = 100000000
      · rw [if_pos c2, (encM_eqF (bd_of hv)).mp c2, fad_far2, encM_far]
      · rw [if_neg c2]
        have f1 : P (Hh - (r + 1)) (numz three (wdC wo kin x m) U) < FARn := by
          have hbq := hbp
          rcases hbq with z | z
          · exact Nat.lt_trans z (Nat.le_of_ble_eq_true rfl)
          · exact absurd ((encM_eqF hbp).mpr z) c1
        have f2 : SV (ofZ wo kin pu pd U) (onZ wo kin pu pd U) (scZ wo kin pu pd U) U P Hh r t' < FARn := by
          rcases bd_of hv with z | z
          · exact Nat.lt_trans z (Nat.le_of_ble_eq_true rfl)
          · exact absurd ((encM_eqF (bd_of hv)).mpr z) c2
        obtain ⟨g1, g2⟩ := hla.2 f1 f2
        unfold encM
        rw [if_pos f1, if_pos f2, if_pos g1, g2, nI_add]
theorem m193 {W : Nat → Nat → Int32} {costs lst : Nat → Int32} {wi U : Nat} {x2 : Int32} {n5 n6 N : Nat} : ∀ (n y : Nat), (∃ o, y ≤ o ∧ o < N ∧ f_Model_costFrom W costs lst n6 n5 (nI o) x2 wi U = lst ((1296 * n6) + n5)) → N - y < n →
    y ≤ f_Model_finds_L193 W costs lst wi U x2 n5 n6 n y ∧ f_Model_finds_L193 W costs lst wi U x2 n5 n6 n y < N ∧ ∀ z, y ≤ z → z < f_Model_finds_L193 W costs lst wi U x2 n5 n6 n y → ¬ f_Model_costFrom W costs lst n6 n5 (nI z) x2 wi U = lst ((1296 * n6) + n5) := by
  intro n
  induction n with
  | zero => intro y _ h; exact absurd h (Nat.not_lt_zero _)
  | succ n ih =>
    intro y h hn
    have hlt := ex_lt (A := fun o => f_Model_costFrom W costs lst n6 n5 (nI o) x2 wi U) h
    rw [f_Model_finds_L193]
    by_cases c : f_Model_costFrom W costs lst n6 n5 (nI y) x2 wi U = lst ((1296 * n6) + n5)
    · rw [if_pos c]
      exact ⟨Nat.le_refl _, hlt, fun z h1 h2 => absurd h2 (by omega)⟩
    · rw [if_neg c]
      obtain ⟨a1, a2, a3⟩ := ih (y + 1) (fd_back (A := fun o => f_Model_costFrom W costs lst n6 n5 (nI o) x2 wi U) h c) (by omega)
      refine ⟨by omega, a2, fun z h1 h2 => ?_⟩
      by_cases q : z = y
      · rw [q]; exact c
      · exact a3 z (by omega) h2
theorem ext_bits {h a x v : Nat} (hh : h ≤ 5) (hx : x < 16) (hv : v % 16777216 < 2 ^ (4 * (5 - h))) : (a * 16777216 + x * 2 ^ (4 * (5 - h)) + v) / 2 ^ (4 * (5 - h)) % 16 = x := by
  obtain ⟨e1, e2, e3⟩ := e_facts hh
  have hM : 16777216 = 2 ^ (4 * (5 - h)) * (16 * 2 ^ (4 * h)) := by
    rw [show (16777216 : Nat) = 2 ^ 24 from rfl, show (16 : Nat) = 2 ^ 4 from rfl, ← Nat.pow_add, ← Nat.pow_add]
    congr 1
    omega
  have hvd := Nat.div_add_mod v 16777216
  generalize hq : v / 16777216 = q at hvd
  generalize hl : v % 16777216 = l at hvd hv
  have e : a * 16777216 + x * 2 ^ (4 * (5 - h)) + v = l + 2 ^ (4 * (5 - h)) * (16 * (2 ^ (4 * h) * (a + q)) + x) := by
    rw [← hvd, Nat.mul_add, ← Nat.mul_assoc 16, ← Nat.mul_assoc (2 ^ (4 * (5 - h))), ← hM, Nat.mul_add, Nat.mul_comm 16777216 a, Nat.mul_comm x]
    omega
  rw [e, Nat.add_mul_div_left _ _ e1, Nat.div_eq_of_lt hv, Nat.zero_add, Nat.mul_add_mod, Nat.mod_eq_of_lt hx]
theorem low_bits {h h' a x v : Nat} (hh : h' ≤ 5) (hlt : h < h') : (a * 16777216 + x * 2 ^ (4 * (5 - h)) + v) / 2 ^ (4 * (5 - h')) % 16 = v / 2 ^ (4 * (5 - h')) % 16 := by
  have e1 : 0 < 2 ^ (4 * (5 - h')) := Nat.two_pow_pos _
  have hM : 16777216 = 2 ^ (4 * (5 - h')) * (16 * 2 ^ (4 * h')) := by
    rw [show (16777216 : Nat) = 2 ^ 24 from rfl, show (16 : Nat) = 2 ^ 4 from rfl, ← Nat.pow_add, ← Nat.pow_add]
    congr 1
    omega
  have hE : 2 ^ (4 * (5 - h)) = 2 ^ (4 * (5 - h')) * (16 * 2 ^ (4 * (h' - h - 1))) := by
    rw [show (16 : Nat) = 2 ^ 4 from rfl, ← Nat.pow_add, ← Nat.pow_add]
    congr 1
    omega
  have e : a * 16777216 + x * 2 ^ (4 * (5 - h)) + v = v + 2 ^ (4 * (5 - h')) * (16 * (2 ^ (4 * h') * a + 2 ^ (4 * (h' - h - 1)) * x)) := by
    rw [hE, show a * 16777216 = a * (2 ^ (4 * (5 - h')) * (16 * 2 ^ (4 * h'))) by rw [← hM]]
    generalize 2 ^ (4 * (5 - h')) = E
    generalize 2 ^ (4 * h') = K
    generalize 2 ^ (4 * (h' - h - 1)) = J
    grind
  rw [e, Nat.add_mul_div_left _ _ e1, Nat.add_mul_mod_self_left]
