theorem or_ite {p : Prop} [Decidable p] {x b : Int32} : (if p then x ||| b else x) = x ||| (if p then b else 0) := by
  by_cases c : p
  · rw [if_pos c, if_pos c]
  · rw [if_neg c, if_neg c, Int32.or_zero]
theorem nk_eq {W : Nat → Nat → Int32} {U H : Nat} {kin ups dow onn : Nat → Int32} (hk : ∀ u, u < U → f_Day_keeps H kin ups dow u (onn u) = f_Model_keeps (W 0) u ((W 0) ((9 + (8 * u)) + 7)) H) : f_Day_unitsNotKeeping H U kin ups dow onn = f_Model_plan_L112 W H 0 U := by
  have key : ∀ k, k ≤ U → f_Day_unitsNotKeeping_L4 H kin ups dow onn 0 k = f_Model_plan_L112 W H 0 k := by
    intro k
    induction k with
    | zero => intro _; rfl
    | succ k ih =>
      intro h
      show f_Day_unitsNotKeeping_L4s H kin ups dow onn k (f_Day_unitsNotKeeping_L4 H kin ups dow onn 0 k) = f_Model_plan_L112s W H k (f_Model_plan_L112 W H 0 k)
      unfold f_Day_unitsNotKeeping_L4s f_Model_plan_L112s
      rw [ih (by omega), hk k (by omega), or_ite]
  exact key U (Nat.le_refl _)
theorem nm_eq {W : Nat → Nat → Int32} {U H : Nat} {res : Int32} {dem hig onn flo sro : Nat → Int32} (hm : ∀ h, h < H → f_Day_isMet U res hig flo sro (dem h) (f_Day_unitsOn U onn (nI h)) (f_Day_unitsStarting U onn (nI h)) = f_Model_isMet (W 0) h (f_Model_onAt (W 0) (nI h) U) (f_Model_startingAt (W 0) (nI h) U) U) : f_Day_hoursNotMet H U res dem hig onn flo sro = f_Model_plan_L55 W U 0 H := by
  have key : ∀ k, k ≤ H → f_Day_hoursNotMet_L4 U res dem hig onn flo sro 0 k = f_Model_plan_L55 W U 0 k := by
    intro k
    induction k with
    | zero => intro _; rfl
    | succ k ih =>
      intro h
      show f_Day_hoursNotMet_L4s U res dem hig onn flo sro k (f_Day_hoursNotMet_L4 U res dem hig onn flo sro 0 k) = f_Model_plan_L55s W U k (f_Model_plan_L55 W U 0 k)
      unfold f_Day_hoursNotMet_L4s f_Model_plan_L55s
      rw [ih (by omega), hm k (by omega), or_ite]
  exact key H (Nat.le_refl _)
theorem sa_all : ((List.range 7).all fun H => (List.range (2 ^ H)).all fun s => decide (f_Model_ones (f_Model_startsOf (nI s) H) = f_bitCount (f_startsAmong (nI s)))) = true := by decide +kernel
theorem cs_eq {W : Nat → Nat → Int32} {U H : Nat} {onn : Nat → Int32} {s : Nat → Nat} (hH : H ≤ 6) (e : ∀ u, u < U → onn u = nI (s u) ∧ (W 0) ((9 + (8 * u)) + 7) = nI (s u) ∧ s u < 2 ^ H) : f_Day_countStarts U onn = f_Model_plan_L168 W H 0 U := by
  have key : ∀ k, k ≤ U → f_Day_countStarts_L4 onn 0 k = f_Model_plan_L168 W H 0 k := by
    intro k
    induction k with
    | zero => intro _; rfl
    | succ k ih =>
      intro h
      obtain ⟨e1, e2, e3⟩ := e k (by omega)
      have a1 := List.all_eq_true.mp sa_all H (List.mem_range.mpr (by omega))
      have a2 := of_decide_eq_true (List.all_eq_true.mp a1 (s k) (List.mem_range.mpr e3))
      show f_Day_countStarts_L4s onn k (f_Day_countStarts_L4 onn 0 k) = f_Model_plan_L168s W H k (f_Model_plan_L168 W H 0 k)
      unfold f_Day_countStarts_L4s f_Model_plan_L168s
      rw [ih (by omega), e1, e2, a2]
  exact key U (Nat.le_refl _)
