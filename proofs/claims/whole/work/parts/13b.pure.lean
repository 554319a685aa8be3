theorem on_all : ((List.range 64).all fun s => (List.range 6).all fun h => (List.range 4).all fun k => decide ((((nI s >>> (nI h &&& 31)) &&& (1 : Int32)) <<< ((nI k) &&& 31)) = (if f_Model_has (nI s) (nI h) = (0 : Int32) then (0 : Int32) else (1 : Int32) <<< ((nI k) &&& 31)))) = true := by decide +kernel
theorem st_all : ((List.range 64).all fun s => (List.range 6).all fun h => (List.range 4).all fun k => decide (((((f_startsAmong (nI s)) >>> (nI h &&& 31)) &&& (1 : Int32)) <<< ((nI k) &&& 31)) = (if f_Model_starts (nI s) (nI h) = (0 : Int32) then (0 : Int32) else (1 : Int32) <<< ((nI k) &&& 31)))) = true := by decide +kernel
theorem so_all : ((List.range 7).all fun H => (List.range (2 ^ H)).all fun s => decide (f_Model_startsOf (nI s) H = f_startsAmong (nI s))) = true := by decide +kernel
theorem bc_all : ((List.range 64).all fun s => decide (f_Model_ones (nI s) = f_bitCount (nI s))) = true := by decide +kernel
theorem startsOf_eq {H s : Nat} (hH : H ≤ 6) (hs : s < 2 ^ H) : f_Model_startsOf (nI s) H = f_startsAmong (nI s) := by
  have a1 := List.all_eq_true.mp so_all H (List.mem_range.mpr (by omega))
  exact of_decide_eq_true (List.all_eq_true.mp a1 s (List.mem_range.mpr hs))
theorem ones_eq {s : Nat} (hs : s < 64) : f_Model_ones (nI s) = f_bitCount (nI s) := of_decide_eq_true (List.all_eq_true.mp bc_all s (List.mem_range.mpr hs))
theorem on_one {s h k : Nat} (hs : s < 64) (hh : h < 6) (hk : k < 4) : (((nI s >>> (nI h &&& 31)) &&& (1 : Int32)) <<< ((nI k) &&& 31)) = (if f_Model_has (nI s) (nI h) = (0 : Int32) then (0 : Int32) else (1 : Int32) <<< ((nI k) &&& 31)) := by
  have a1 := List.all_eq_true.mp on_all s (List.mem_range.mpr hs)
  have a2 := List.all_eq_true.mp a1 h (List.mem_range.mpr hh)
  exact of_decide_eq_true (List.all_eq_true.mp a2 k (List.mem_range.mpr hk))
theorem st_one {s h k : Nat} (hs : s < 64) (hh : h < 6) (hk : k < 4) : ((((f_startsAmong (nI s)) >>> (nI h &&& 31)) &&& (1 : Int32)) <<< ((nI k) &&& 31)) = (if f_Model_starts (nI s) (nI h) = (0 : Int32) then (0 : Int32) else (1 : Int32) <<< ((nI k) &&& 31)) := by
  have a1 := List.all_eq_true.mp st_all s (List.mem_range.mpr hs)
  have a2 := List.all_eq_true.mp a1 h (List.mem_range.mpr hh)
  exact of_decide_eq_true (List.all_eq_true.mp a2 k (List.mem_range.mpr hk))
section ONAT
variable {U h : Nat} {onn f : Nat → Int32} {s : Nat → Nat}
theorem onAt_eq (hU : U ≤ 4) (hh : h < 6) (e : ∀ u, u < U → onn u = nI (s u) ∧ f ((9 + (8 * u)) + 7) = nI (s u) ∧ s u < 64) : f_Day_unitsOn U onn (nI h) = f_Model_onAt f (nI h) U := by
  have key : ∀ k, k ≤ U → f_Day_unitsAmong_L5 onn (nI h) 0 0 k = f_Model_onAt_L4 f (nI h) 0 k := by
    intro k
    induction k with
    | zero => intro _; rfl
    | succ k ih =>
      intro hk
      obtain ⟨e1, e2, e3⟩ := e k (by omega)
      show f_Day_unitsAmong_L5s onn (nI h) 0 k (f_Day_unitsAmong_L5 onn (nI h) 0 0 k) = f_Model_onAt_L4s f (nI h) k (f_Model_onAt_L4 f (nI h) 0 k)
      unfold f_Day_unitsAmong_L5s f_Model_onAt_L4s
      rw [ih (by omega), iteT (show (0 : Int32) = 0 from rfl), e1, e2, on_one e3 hh (by omega)]
  exact key U (Nat.le_refl _)
theorem stAt_eq (hU : U ≤ 4) (hh : h < 6) (e : ∀ u, u < U → onn u = nI (s u) ∧ f ((9 + (8 * u)) + 7) = nI (s u) ∧ s u < 64) : f_Day_unitsStarting U onn (nI h) = f_Model_startingAt f (nI h) U := by
  have key : ∀ k, k ≤ U → f_Day_unitsAmong_L5 onn (nI h) 1 0 k = f_Model_startingAt_L4 f (nI h) 0 k := by
    intro k
    induction k with
    | zero => intro _; rfl
    | succ k ih =>
      intro hk
      obtain ⟨e1, e2, e3⟩ := e k (by omega)
      show f_Day_unitsAmong_L5s onn (nI h) 1 k (f_Day_unitsAmong_L5 onn (nI h) 1 0 k) = f_Model_startingAt_L4s f (nI h) k (f_Model_startingAt_L4 f (nI h) 0 k)
      unfold f_Day_unitsAmong_L5s f_Model_startingAt_L4s
      rw [ih (by omega), iteF (show ¬ (1 : Int32) = 0 by decide), e1, e2, st_one e3 hh (by omega)]
  exact key U (Nat.le_refl _)
end ONAT
