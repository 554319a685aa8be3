theorem fad_eq {a b : Nat} (h : fad a b < FARn) : fad a b = a + b := by unfold fad at h ⊢; omega
theorem fad_lt2 {a b : Nat} (h : fad a b < FARn) : b < FARn := by unfold fad at h; omega
theorem encM_inj {a b : Nat} (ha : bdv a) (hb : bdv b) (hf : b < FARn) (h : encM a = encM b) : a < FARn ∧ a / 16777216 = b / 16777216 := by
  have haf : a < FARn := by
    have hq := ha
    rcases hq with z | z
    · exact Nat.lt_trans z (Nat.le_of_ble_eq_true rfl)
    · exfalso
      rw [z, encM_far] at h
      have := (encM_eqF hb).mp h.symm
      omega
  refine ⟨haf, ?_⟩
  unfold encM at h
  rw [if_pos haf, if_pos hf] at h
  have qa : a / 2 ^ 24 < 1048576 := by
    rcases ha with z | z
    · exact bdv_q z
    · omega
  have qb : b / 2 ^ 24 < 1048576 := by
    rcases hb with z | z
    · exact bdv_q z
    · omega
  exact (nI_eq (by omega) (by omega)).mp h
section PATH
variable {W : Nat → Nat → Int32} {costs T : Nat → Int32} {wi U Hh : Nat} {lost wo : Int32} {kin : Nat → Int32} {pu pd : Nat → Nat} {P : Nat → Nat → Nat}
theorem choice (hU : U ≤ 4) (hH : Hh ≤ 6) (hpu : ∀ j, j < U → 1 ≤ pu j ∧ pu j ≤ 3) (hpd : ∀ j, j < U → 1 ≤ pd j ∧ pd j ≤ 3)
    (hWu : ∀ j, j < U → W wi ((9 + (8 * j)) + 5) = nI (pu j)) (hWd : ∀ j, j < U → W wi ((9 + (8 * j)) + 6) = nI (pd j)) (hmd : ∀ j, j < U → uMd lost (fun v => W wi (9 + 8 * v)) j = uMd wo kin j) (hP : ∀ h c, h < 6 → parB h (P h c))
    (hcost : ∀ h x m, h < Hh → x < 2 ^ U → costs (81 * h + numz three (wdM x m) U) = encM (P h (numz three (wdC wo kin x m) U)))
    (hPx : ∀ h x m, h < Hh → x < 2 ^ U → P h (numz three (wdC wo kin x m) U) = FARn ∨ ∃ a, P h (numz three (wdC wo kin x m) U) = a * 16777216 + x * 2 ^ (4 * (5 - h)))
    (hT0 : ∀ m, m < 6 ^ U → T (1296 * Hh + m) = 0) (hT : ∀ h m, h < Hh → m < 6 ^ U → T (1296 * h + m) = (f_Model_finds_L76 W costs T wi U lost (2 ^ U) h m (2 ^ U + 1) 100000000 0).1)
    {r m s : Nat} (hr : r + 1 ≤ Hh) (hm : m < 6 ^ U) (hm0 : r + 1 < Hh ∨ m = 0) (hs : s < pwz (zU wo kin pu pd) U) (hrel : ∀ u, u < U → relB (uMd wo kin u) (pu u) (pd u) (m / 6 ^ u % 6) (digz (zU wo kin pu pd) s u) = true)
    (hD : SV (ofZ wo kin pu pd U) (onZ wo kin pu pd U) (scZ wo kin pu pd U) U P Hh (r + 1) s < FARn) :
    ∃ x nx t' a, f_Model_finds_L193 W costs T wi U lost m (Hh - (r + 1)) (2 ^ U + 1) 0 = x ∧ x < 2 ^ U ∧ f_Model_nextOf (W wi) m (nI x) lost U = nI nx ∧ nx < 6 ^ U ∧ t' < pwz (zU wo kin pu pd) U ∧ (∀ u, u < U → relB (uMd wo kin u) (pu u) (pd u) (nx / 6 ^ u % 6) (digz (zU wo kin pu pd) t' u) = true) ∧
      SV (ofZ wo kin pu pd U) (onZ wo kin pu pd U) (scZ wo kin pu pd U) U P Hh (r + 1) s = a * 16777216 + x * 2 ^ (4 * (5 - (Hh - (r + 1)))) + SV (ofZ wo kin pu pd U) (onZ wo kin pu pd U) (scZ wo kin pu pd U) U P Hh r t' ∧ SV (ofZ wo kin pu pd U) (onZ wo kin pu pd U) (scZ wo kin pu pd U) U P Hh r t' < FARn ∧ SV (ofZ wo kin pu pd U) (onZ wo kin pu pd U) (scZ wo kin pu pd U) U P Hh r t' % 16777216 < 2 ^ (4 * (5 - (Hh - (r + 1)))) := by
  have h2 := pow2_4 hU
  have h2p := Nat.two_pow_pos U
  have hTm := dp_eq hU hH hpu hpd hWu hWd hmd hP hcost hT0 hT (r + 1) hr m s hm hm0 hs hrel
  have hSl := SV_low (of_ := ofZ wo kin pu pd U) (on_ := onZ wo kin pu pd U) (sc := scZ wo kin pu pd U) (U := U) (P := P) hH hP
  have hbD := bd_of (hSl (r + 1) hr s)
  generalize hDD : SV (ofZ wo kin pu pd U) (onZ wo kin pu pd U) (scZ wo kin pu pd U) U P Hh (r + 1) s = D at hD hTm hbD
  have eD : D = mnF (fun x => gO (fun s' => fad (P (Hh - (r + 1)) (scZ wo kin pu pd U s')) (SV (ofZ wo kin pu pd U) (onZ wo kin pu pd U) (scZ wo kin pu pd U) U P Hh r s')) (chC (ofZ wo kin pu pd U) (onZ wo kin pu pd U) U x s)) (2 ^ U) := by
    rw [← hDD]; exact TT_flat U _ (fun _ => fad_le)
  -- what a finite way is
  have form : ∀ x, x < 2 ^ U → (chC (ofZ wo kin pu pd U) (onZ wo kin pu pd U) U x s = none ∧ f_Model_costFrom W costs T (Hh - (r + 1)) m (nI x) lost wi U = 100000000) ∨ ∃ nx t' F, chC (ofZ wo kin pu pd U) (onZ wo kin pu pd U) U x s = some t' ∧ t' < pwz (zU wo kin pu pd) U ∧ nx < 6 ^ U ∧ (∀ u, u < U → relB (uMd wo kin u) (pu u) (pd u) (nx / 6 ^ u % 6) (digz (zU wo kin pu pd) t' u) = true) ∧ f_Model_nextOf (W wi) m (nI x) lost U = nI nx ∧ f_Model_costFrom W costs T (Hh - (r + 1)) m (nI x) lost wi U = encM F ∧ bdv F ∧ D ≤ F ∧ gO (fun s' => fad (P (Hh - (r + 1)) (scZ wo kin pu pd U s')) (SV (ofZ wo kin pu pd U) (onZ wo kin pu pd U) (scZ wo kin pu pd U) U P Hh r s')) (chC (ofZ wo kin pu pd U) (onZ wo kin pu pd U) U x s) = F ∧
      (F < FARn → ∃ a, F = a * 16777216 + x * 2 ^ (4 * (5 - (Hh - (r + 1)))) + SV (ofZ wo kin pu pd U) (onZ wo kin pu pd U) (scZ wo kin pu pd U) U P Hh r t' ∧ SV (ofZ wo kin pu pd U) (onZ wo kin pu pd U) (scZ wo kin pu pd U) U P Hh r t' < FARn ∧ SV (ofZ wo kin pu pd U) (onZ wo kin pu pd U) (scZ wo kin pu pd U) U P Hh r t' % 16777216 < 2 ^ (4 * (5 - (Hh - (r + 1))))) := by
    intro x hx
    rcases cf_enc hU hH hpu hpd hWu hWd hmd hP hcost hT0 hT (r := r) (m := m) (s := s) (x := x) hr hs hrel hx with h | ⟨nx, t', c1, c2, c3, c4, c5, c6, c7⟩
    · exact Or.inl h
    · have hv := hSl r (by omega) t'
      rw [show Hh - r = Hh - (r + 1) + 1 by omega] at hv
      have hla := low_add (by omega) (hP (Hh - (r + 1)) (numz three (wdC wo kin x m) U) (by omega)) hv
      have hg : gO (fun s' => fad (P (Hh - (r + 1)) (scZ wo kin pu pd U s')) (SV (ofZ wo kin pu pd U) (onZ wo kin pu pd U) (scZ wo kin pu pd U) U P Hh r s')) (chC (ofZ wo kin pu pd U) (onZ wo kin pu pd U) U x s) = fad (P (Hh - (r + 1)) (numz three (wdC wo kin x m) U)) (SV (ofZ wo kin pu pd U) (onZ wo kin pu pd U) (scZ wo kin pu pd U) U P Hh r t') := by
        rw [c1]
        show fad (P (Hh - (r + 1)) (scZ wo kin pu pd U t')) _ = _
        rw [c5]
      refine Or.inr ⟨nx, t', _, c1, c2, c3, c4, c6, c7, bd_of hla.1, ?_, hg, fun hf => ?_⟩
      · rw [← hg, eD]
        exact mnF_le hx
      · have hvf : SV (ofZ wo kin pu pd U) (onZ wo kin pu pd U) (scZ wo kin pu pd U) U P Hh r t' < FARn := fad_lt2 hf
        rcases hPx (Hh - (r + 1)) x m (by omega) hx with z | ⟨a, ha⟩
        · rw [z, fad_far] at hf; omega
        · refine ⟨a, ?_, hvf, ?_⟩
          · rw [fad_eq hf, ha]
          · rcases hv with z | z
            · omega
            · rw [show 6 - (Hh - (r + 1) + 1) = 5 - (Hh - (r + 1)) by omega] at z
              exact z.2
  rcases mnF_at (f := fun x => gO (fun s' => fad (P (Hh - (r + 1)) (scZ wo kin pu pd U s')) (SV (ofZ wo kin pu pd U) (onZ wo kin pu pd U) (scZ wo kin pu pd U) U P Hh r s')) (chC (ofZ wo kin pu pd U) (onZ wo kin pu pd U) U x s)) (2 ^ U) with q | ⟨x0, hx0, q⟩
  · rw [← eD] at q; omega
  rw [← eD] at q
  rcases form x0 hx0 with ⟨z1, -⟩ | ⟨nx0, t0, F0, a1, a2, a3, a4, a5, a6, a7, a8, a9, a10⟩
  · rw [z1] at q
    exfalso
    have : D = FARn := q
    omega
  have hF0 : F0 = D := by rw [← a9]; exact q.symm
  subst hF0
  have hex : ∃ o, 0 ≤ o ∧ o < 2 ^ U ∧ f_Model_costFrom W costs T (Hh - (r + 1)) m (nI o) lost wi U = T ((1296 * (Hh - (r + 1))) + m) := ⟨x0, Nat.zero_le _, hx0, by rw [a6, hTm]⟩
  have hfd := fd_find (2 ^ U + 1) 0 hex (by omega)
  obtain ⟨-, b2, b3⟩ := m193 (2 ^ U + 1) 0 hex (by omega)
  generalize hxx : f_Model_finds_L193 W costs T wi U lost m (Hh - (r + 1)) (2 ^ U + 1) 0 = x at hfd b2 b3
  have hle : x ≤ x0 := Nat.le_of_not_lt (fun z => b3 x0 (Nat.zero_le _) z (by rw [a6, hTm]))
  rw [hTm] at hfd
  obtain ⟨e1, e2, e3⟩ := e_facts (h := Hh - (r + 1)) (by omega)
  rcases form x b2 with ⟨-, z2⟩ | ⟨nx, t', F, d1, d2, d3, d4, d5, d6, d7, d8, d9, d10⟩
  · rw [z2] at hfd
    exfalso
    have := (encM_eqF hbD).mp hfd.symm
    omega
  rw [d6] at hfd
  obtain ⟨f1, f2⟩ := encM_inj d7 hbD hD hfd
  obtain ⟨a, g1, g2, g3⟩ := d10 f1
  obtain ⟨a0, g4, g5, g6⟩ := a10 hD
  have hxe : x = x0 := by
    rcases Nat.lt_or_ge x x0 with w | w
    · exfalso
      have k1 := qr (a := a) (oe := x * 2 ^ (4 * (5 - (Hh - (r + 1))))) g3 (Nat.mul_le_mul_right _ (by omega)) e2
      have k2 := qr (a := a0) (oe := x0 * 2 ^ (4 * (5 - (Hh - (r + 1))))) g6 (Nat.mul_le_mul_right _ (by omega)) e2
      rw [← g1] at k1
      rw [← g4] at k2
      have k3 : (x + 1) * 2 ^ (4 * (5 - (Hh - (r + 1)))) ≤ x0 * 2 ^ (4 * (5 - (Hh - (r + 1)))) := Nat.mul_le_mul_right _ w
      rw [Nat.add_mul, Nat.one_mul] at k3
      have k4 := Nat.div_add_mod F 16777216
      have k5 := Nat.div_add_mod F0 16777216
      rw [k1.2.1, f2] at k4
      rw [k2.2.1] at k5
      omega
    · omega
  subst hxe
  have htt : t' = t0 := by rw [a1] at d1; exact (Option.some.inj d1).symm
  have hFF : F = F0 := by rw [← d9, ← a9]
  refine ⟨x, nx, t', a, rfl, b2, d5, d3, d2, d4, ?_, g2, g3⟩
  rw [← g1, hFF]
end PATH
