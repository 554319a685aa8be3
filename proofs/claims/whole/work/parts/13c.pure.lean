section PLANC
variable {W : Nat → Nat → Int32} {U H : Nat} {res : Int32} {dem kin hig pri ups dow onn flo sro sco : Nat → Int32} {ord : Nat → Nat}
theorem pc_loop (hH : H ≤ 6) (hc : ∀ h, h < H → ∀ g, (f_Model_isMet (W 0) h (f_Model_onAt (W 0) (nI h) U) (f_Model_startingAt (W 0) (nI h) U) U = 0 ∧ f_Day_hourCost U res hig pri ord flo sro sco (dem h) (f_Day_unitsOn U onn (nI h)) (f_Day_unitsStarting U onn (nI h)) = -1000000) ∨ (¬ f_Model_isMet (W 0) h (f_Model_onAt (W 0) (nI h) U) (f_Model_startingAt (W 0) (nI h) U) U = 0 ∧ ¬ f_Day_hourCost U res hig pri ord flo sro sco (dem h) (f_Day_unitsOn U onn (nI h)) (f_Day_unitsStarting U onn (nI h)) = -1000000 ∧ (f_Model_shares W g h (f_Model_onAt (W 0) (nI h) U) (f_Model_startingAt (W 0) (nI h) U) 0 U).1 = f_Day_hourCost U res hig pri ord flo sro sco (dem h) (f_Day_unitsOn U onn (nI h)) (f_Day_unitsStarting U onn (nI h)))) :
    ∀ n k s g, n + k = H + 1 → k ≤ H → (f_Day_planCost_L14 H U res dem hig pri onn ord flo sro sco n s k = .inr (-1000000) ∧ ∃ g', f_Model_planCost_L4 W U H n s k g = .inr (-1000000, g')) ∨ ∃ t j g', f_Day_planCost_L14 H U res dem hig pri onn ord flo sro sco n s k = .inl (t, j) ∧ f_Model_planCost_L4 W U H n s k g = .inl (t, j, g') := by
  intro n
  induction n with
  | zero => intro k s g h1 h2; omega
  | succ n ih =>
    intro k s g h1 h2
    unfold f_Day_planCost_L14 f_Model_planCost_L4
    by_cases c : k < H
    · have hlt : nI k < nI H := (nI_ltI (by omega) (by omega)).mpr c
      rw [iteT hlt, iteT hlt]
      rcases hc k c g with ⟨z1, z2⟩ | ⟨z1, z2, z3⟩
      · rw [iteT z1, iteT z2]
        exact Or.inl ⟨rfl, g, rfl⟩
      · rw [iteF z1, iteF z2]
        dsimp only
        rw [z3]
        exact ih (k + 1) _ _ (by omega) (by omega)
    · have hlt : ¬ nI k < nI H := fun z => c ((nI_ltI (by omega) (by omega)).mp z)
      rw [iteF hlt, iteF hlt]
      exact Or.inr ⟨s, k, g, rfl, rfl⟩
theorem nk_loop (hU : U ≤ 4) : ∀ k, k ≤ U → ∃ m, m < 2 ^ k ∧ f_Day_unitsNotKeeping_L4 H kin ups dow onn 0 k = nI m ∧ (m = 0 ↔ ∀ j, j < k → ¬ f_Day_keeps H kin ups dow j (onn j) = 0) := by
  intro k
  induction k with
  | zero => intro _; exact ⟨0, by decide, rfl, fun _ j hj => absurd hj (by omega), fun _ => rfl⟩
  | succ k ih =>
    intro hk
    obtain ⟨m, m1, m2, m3⟩ := ih (by omega)
    show ∃ m, m < 2 ^ (k + 1) ∧ f_Day_unitsNotKeeping_L4s H kin ups dow onn k (f_Day_unitsNotKeeping_L4 H kin ups dow onn 0 k) = nI m ∧ _
    unfold f_Day_unitsNotKeeping_L4s
    have e2 : 2 ^ (k + 1) = 2 * 2 ^ k := by rw [Nat.pow_succ]; omega
    by_cases c : f_Day_keeps H kin ups dow k (onn k) = 0
    · rw [iteT c, m2]
      have hs : (1 : Int32) <<< ((nI k) &&& 31) = nI (2 ^ k) := by
        have h4 : k = 0 ∨ k = 1 ∨ k = 2 ∨ k = 3 := by omega
        rcases h4 with q | q | q | q <;> subst q <;> decide
      rw [hs, nI_or]
      refine ⟨m ||| 2 ^ k, Nat.or_lt_two_pow (by omega) (by have := Nat.pow_pos (n := k) (show 0 < 2 by decide); omega), rfl, fun z => ?_, fun z => absurd c (z k (by omega))⟩
      have h1 : 2 ^ k ≤ m ||| 2 ^ k := Nat.right_le_or
      have h2 := Nat.pow_pos (n := k) (show 0 < 2 by decide)
      omega
    · rw [iteF c]
      refine ⟨m, by omega, m2, fun z j hj => ?_, fun z => m3.mpr (fun j hj => z j (by omega))⟩
      by_cases q : j = k
      · rw [q]; exact c
      · exact m3.mp z j (by omega)
theorem nk_zero (hU : U ≤ 4) : f_Day_unitsNotKeeping H U kin ups dow onn = 0 ↔ ∀ j, j < U → ¬ f_Day_keeps H kin ups dow j (onn j) = 0 := by
  obtain ⟨m, m1, m2, m3⟩ := nk_loop (H := H) (kin := kin) (ups := ups) (dow := dow) (onn := onn) hU U (Nat.le_refl _)
  rw [← m3]
  show f_Day_unitsNotKeeping_L4 H kin ups dow onn 0 U = 0 ↔ _
  rw [m2]
  constructor
  · intro z
    rcases Nat.eq_zero_or_pos m with q | q
    · exact q
    · have h2 := pow2_4 hU
      have h3 : nI 0 < nI m := (nI_ltI (by omega) (by omega)).mpr q
      rw [z] at h3
      exact absurd h3 (by decide)
  · intro z; rw [z]; rfl
theorem pc_keeps {gvn : Nat → Int32} (hU : U ≤ 4) : ∀ n k, n + k = U + 1 → k ≤ U → ((∀ j, k ≤ j → j < U → ¬ f_Model_keeps (W 0) j ((W 0) ((9 + (8 * j)) + 7)) H = 0) ∧ ∃ j, f_Model_planCost_L73 W gvn U H n k = .inl j) ∨ ((∃ j, k ≤ j ∧ j < U ∧ f_Model_keeps (W 0) j ((W 0) ((9 + (8 * j)) + 7)) H = 0) ∧ f_Model_planCost_L73 W gvn U H n k = .inr (-1000000, gvn)) := by
  intro n
  induction n with
  | zero => intro k h1 h2; omega
  | succ n ih =>
    intro k h1 h2
    unfold f_Model_planCost_L73
    by_cases c : k < U
    · have hlt : nI k < nI U := (nI_ltI (by omega) (by omega)).mpr c
      rw [iteT hlt]
      by_cases d : f_Model_keeps (W 0) k ((W 0) ((9 + (8 * k)) + 7)) H = 0
      · rw [iteT d]
        exact Or.inr ⟨⟨k, Nat.le_refl _, c, d⟩, rfl⟩
      · rw [iteF d]
        rcases ih (k + 1) (by omega) (by omega) with ⟨z1, z2⟩ | ⟨⟨j, z1, z2, z3⟩, z4⟩
        · refine Or.inl ⟨fun j hj1 hj2 => ?_, z2⟩
          by_cases q : j = k
          · rw [q]; exact d
          · exact z1 j (by omega) hj2
        · exact Or.inr ⟨⟨j, by omega, z2, z3⟩, z4⟩
    · have hlt : ¬ nI k < nI U := fun z => c ((nI_ltI (by omega) (by omega)).mp z)
      rw [iteF hlt]
      exact Or.inl ⟨fun j hj1 hj2 => absurd hj1 (by omega), k, rfl⟩
end PLANC
