theorem unSt_nat {U h : Nat} {onn : Nat → Int32} {s : Nat → Nat} (hU : U ≤ 4) (hh : h < 6) (e : ∀ u, u < U → onn u = nI (s u) ∧ s u < 64) : ∃ x, x < 2 ^ U ∧ f_Day_unitsStarting U onn (nI h) = nI x ∧ ∀ u, u < U → (bt_ x u = true ↔ ¬ f_Model_starts (nI (s u)) (nI h) = 0) := by
  have key : ∀ k, k ≤ U → ∃ x, x < 2 ^ k ∧ f_Day_unitsAmong_L5 onn (nI h) 1 0 k = nI x ∧ ∀ u, u < k → (bt_ x u = true ↔ ¬ f_Model_starts (nI (s u)) (nI h) = 0) := by
    intro k
    induction k with
    | zero => intro _; exact ⟨0, by decide, rfl, fun u hu => absurd hu (by omega)⟩
    | succ k ih =>
      intro hk
      obtain ⟨x, x1, x2, x3⟩ := ih (by omega)
      obtain ⟨e1, e3⟩ := e k (by omega)
      show ∃ x, x < 2 ^ (k + 1) ∧ f_Day_unitsAmong_L5s onn (nI h) 1 k (f_Day_unitsAmong_L5 onn (nI h) 1 0 k) = nI x ∧ _
      unfold f_Day_unitsAmong_L5s
      rw [x2, iteF (show ¬ (1 : Int32) = 0 by decide), e1, st_one e3 hh (by omega)]
      have hp := Nat.pow_pos (n := k) (show 0 < 2 by decide)
      have e2 : 2 ^ (k + 1) = 2 * 2 ^ k := by rw [Nat.pow_succ]; omega
      have hs : (1 : Int32) <<< ((nI k) &&& 31) = nI (2 ^ k) := by
        have h4 : k = 0 ∨ k = 1 ∨ k = 2 ∨ k = 3 := by omega
        rcases h4 with q | q | q | q <;> subst q <;> decide
      have btx : ∀ z, z = x ∨ z = x + 2 ^ k → ∀ u, u < k → bt_ z u = bt_ x u := by
        intro z hz u hu
        rcases hz with q | q
        · rw [q]
        · rw [q]
          unfold bt_
          have e5 : 2 ^ k = 2 ^ u * (2 * 2 ^ (k - u - 1)) := by
            rw [← Nat.pow_succ', ← Nat.pow_add]
            congr 1
            omega
          rw [e5, Nat.add_mul_div_left _ _ (Nat.pow_pos (by decide)), Nat.add_mul_mod_self_left]
      have btk : ∀ b, b < 2 → bt_ (x + b * 2 ^ k) k = decide (b = 1) := by
        intro b hb
        unfold bt_
        rw [Nat.add_mul_div_right _ _ hp, Nat.div_eq_of_lt x1, Nat.zero_add, Nat.mod_eq_of_lt hb]
      by_cases c : f_Model_starts (nI (s k)) (nI h) = 0
      · rw [iteT c]
        refine ⟨x, by omega, by rw [show (0 : Int32) = nI 0 from rfl, nI_or, Nat.or_zero], fun u hu => ?_⟩
        by_cases q : u = k
        · have b0 := btk 0 (by omega)
          rw [Nat.zero_mul, Nat.add_zero] at b0
          rw [q, b0]
          exact ⟨fun z => absurd z (by decide), fun z => absurd c z⟩
        · exact x3 u (by omega)
      · rw [iteF c, hs]
        have eo : x ||| 2 ^ k = x + 2 ^ k := by
          rw [Nat.or_comm]
          have := Nat.two_pow_add_eq_or_of_lt x1 1
          rw [Nat.mul_one] at this
          omega
        refine ⟨x + 2 ^ k, by omega, by rw [nI_or, eo], fun u hu => ?_⟩
        by_cases q : u = k
        · have b1 := btk 1 (by omega)
          rw [Nat.one_mul] at b1
          rw [q, b1]
          exact ⟨fun _ => c, fun _ => rfl⟩
        · rw [btx _ (Or.inr rfl) u (by omega)]
          exact x3 u (by omega)
  exact key U (Nat.le_refl _)
theorem st_sub {s h : Int32} (z : ¬ f_Model_starts s h = 0) : ¬ f_Model_has s h = 0 := by
  intro c
  apply z
  unfold f_Model_starts
  rw [iteT c]
theorem hours_or {W : Nat → Nat → Int32} {U H r : Nat} {res : Int32} {dem hig pri onn flo sro sco : Nat → Int32} {ord : Nat → Nat} {fl hi sr pr sc dd s : Nat → Nat} (hU : U ≤ 4) (hH : H ≤ 6) (hd : ∀ h, h < H → (W 0) (3 + h) = nI (dd h) ∧ dem h = nI (dd h) ∧ dd h ≤ 100) (hr : (W 0) 2 = nI r) (hr2 : r ≤ 100) (hres : res = nI r) (hord : arr ord U = BL pr U 9) (hu : uOK (W 0) hig pri flo sro sco fl hi sr pr sc U) (e : ∀ u, u < U → onn u = nI (s u) ∧ (W 0) ((9 + (8 * u)) + 7) = nI (s u) ∧ s u < 64) :
    ∀ h, h < H → ∀ g, (f_Model_isMet (W 0) h (f_Model_onAt (W 0) (nI h) U) (f_Model_startingAt (W 0) (nI h) U) U = 0 ∧ f_Day_hourCost U res hig pri ord flo sro sco (dem h) (f_Day_unitsOn U onn (nI h)) (f_Day_unitsStarting U onn (nI h)) = -1000000) ∨ (¬ f_Model_isMet (W 0) h (f_Model_onAt (W 0) (nI h) U) (f_Model_startingAt (W 0) (nI h) U) U = 0 ∧ ¬ f_Day_hourCost U res hig pri ord flo sro sco (dem h) (f_Day_unitsOn U onn (nI h)) (f_Day_unitsStarting U onn (nI h)) = -1000000 ∧ (f_Model_shares W g h (f_Model_onAt (W 0) (nI h) U) (f_Model_startingAt (W 0) (nI h) U) 0 U).1 = f_Day_hourCost U res hig pri ord flo sro sco (dem h) (f_Day_unitsOn U onn (nI h)) (f_Day_unitsStarting U onn (nI h))) := by
  intro h hh g
  obtain ⟨d1, d2, d3⟩ := hd h hh
  have e' : ∀ u, u < U → onn u = nI (s u) ∧ s u < 64 := fun u hu => ⟨(e u hu).1, (e u hu).2.2⟩
  obtain ⟨x, x1, x2, x3⟩ := unOn_nat (h := h) hU (by omega) e'
  obtain ⟨y, y1, y2, y3⟩ := unSt_nat (h := h) hU (by omega) e'
  have h2 := pow2_4 hU
  rw [← onAt_eq hU (show h < 6 by omega) e, ← stAt_eq hU (show h < 6 by omega) e, x2, y2, d2]
  rcases hour_or (gvn := g) (x := x) (y := y) (by omega) (by omega) hU d1 d3 hr hr2 hres hord hu (fun u hu z => (x3 u hu).mpr (st_sub ((y3 u hu).mp z))) with ⟨z1, z2⟩ | ⟨z1, v, z2, z3, z4⟩
  · exact Or.inl ⟨z1, z2⟩
  · refine Or.inr ⟨z1, ?_, by rw [z3, z4]⟩
    rw [z3]
    intro z
    have hn : ¬ nI v < 0 := nI_nneg (by omega)
    rw [z] at hn
    exact hn (by decide)
