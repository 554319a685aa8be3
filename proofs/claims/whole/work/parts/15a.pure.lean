theorem inC {v : Int32} {N : Nat} (hN : N < 1000) : (∃ k, k < N ∧ v = nI k ∧ f_Model_in v 0 (nI N - 1) = 1) ∨ (f_Model_in v 0 (nI N - 1) = 0 ∧ (v < 0 ∨ ¬ v < nI N)) := by
  unfold f_Model_in
  by_cases c : v < 0
  · exact Or.inr ⟨if_pos c, Or.inl c⟩
  · by_cases d : v < nI N
    · obtain ⟨k, hk, rfl⟩ := lt_nat (by omega) c d
      refine Or.inl ⟨k, hk, rfl, ?_⟩
      have e : nI N - (1 : Int32) = nI (N - 1) := pk_sub (b := 1) (by omega)
      rw [if_neg c, e, if_neg (nI_nlt (by omega) (by omega))]
    · refine Or.inr ⟨?_, Or.inr d⟩
      rw [if_neg c]
      refine if_pos (Int32.lt_iff_toInt_lt.mpr ?_)
      have e1 : (nI N - nI 1).toInt = (N : Int) - (1 : Nat) := pk_sub_toInt (by omega) (by omega)
      have e2 : (nI N - nI 0).toInt = (N : Int) - (0 : Nat) := pk_sub_toInt (by omega) (by omega)
      rw [pk_sub (Nat.zero_le _), Nat.sub_zero] at e2
      have e3 : ¬ v.toInt < (nI N).toInt := fun z => d (Int32.lt_iff_toInt_lt.mpr z)
      show (nI N - nI 1).toInt < v.toInt
      rw [e1]
      omega
theorem unitC {U : Nat} {u : Int32} (hU : U ≤ 4) : (∃ k, k < U ∧ u = nI k ∧ f_UH_noUnit U u = 0 ∧ f_Model_isUnit u U = 1) ∨ (f_UH_noUnit U u = 1 ∧ f_Model_isUnit u U = 0) := by
  rcases inC (v := u) (N := U) (by omega) with ⟨k, h1, h2, h3⟩ | ⟨h1, h2⟩
  · refine Or.inl ⟨k, h1, h2, ?_, h3⟩
    unfold f_UH_noUnit
    rw [h2, if_neg (nI_nneg (by omega)), if_pos (nI_lt h1 (by omega))]
  · refine Or.inr ⟨?_, h1⟩
    unfold f_UH_noUnit
    rcases h2 with z | z
    · rw [if_pos z]
    · rw [if_neg z, ite_self]
theorem hourC {H : Nat} {u : Int32} (hH : H ≤ 6) : (∃ k, k < H ∧ u = nI k ∧ f_UH_noHour H u = 0 ∧ f_Model_isHour u H = 1) ∨ (f_UH_noHour H u = 1 ∧ f_Model_isHour u H = 0) := by
  rcases inC (v := u) (N := H) (by omega) with ⟨k, h1, h2, h3⟩ | ⟨h1, h2⟩
  · refine Or.inl ⟨k, h1, h2, ?_, h3⟩
    unfold f_UH_noHour
    rw [h2, if_neg (nI_nneg (by omega)), if_pos (nI_lt h1 (by omega))]
  · refine Or.inr ⟨?_, h1⟩
    unfold f_UH_noHour
    rcases h2 with z | z
    · rw [if_pos z]
    · rw [if_neg z, ite_self]
theorem rowC {u : Int32} : (∃ k, k < 8 ∧ u = nI k ∧ f_UH_noRow u = 0 ∧ f_Model_isRow u = 1) ∨ (f_UH_noRow u = 1 ∧ f_Model_isRow u = 0) := by
  rcases inC (v := u) (N := 8) (by omega) with ⟨k, h1, h2, h3⟩ | ⟨h1, h2⟩
  · refine Or.inl ⟨k, h1, h2, ?_, h3⟩
    unfold f_UH_noRow
    rw [h2, if_neg (nI_nneg (by omega))]
    exact if_pos (nI_lt (b := 8) h1 (by omega))
  · refine Or.inr ⟨?_, h1⟩
    unfold f_UH_noRow
    rcases h2 with z | z
    · rw [if_pos z]
    · rw [iteF (show ¬ u < (8 : Int32) from z), ite_self]
def rR (it : Nat → Nat → Int32) (lan siz lane : Nat → Int32) (many : Nat → Nat) (items : Nat → Int32) : Prop := ∀ r, r < 8 → many r ≤ 40 ∧ ((siz r = -1 ∧ lane r = -1000000) ∨ (siz r = nI (many r) ∧ lane r = lan r ∧ ¬ lane r = -1000000 ∧ ∀ k, k < 40 → it r k = items (40 * r + k)))
theorem missC {it : Nat → Nat → Int32} {lan siz lane : Nat → Int32} {many : Nat → Nat} {items : Nat → Int32} (h : rR it lan siz lane many items) {r : Nat} (hr : r < 8) : (f_Rows_isMissing siz r = 1 ∧ f_Model_isMissing lane r = 1) ∨ (f_Rows_isMissing siz r = 0 ∧ f_Model_isMissing lane r = 0 ∧ siz r = nI (many r) ∧ many r ≤ 40 ∧ lane r = lan r ∧ ¬ lane r = -1000000 ∧ ∀ k, k < 40 → it r k = items (40 * r + k)) := by
  unfold f_Rows_isMissing f_Model_isMissing
  obtain ⟨h0, h1⟩ := h r hr
  rcases h1 with ⟨h1, h2⟩ | ⟨h1, h2, h3, h4⟩
  · exact Or.inl ⟨if_pos h1, if_pos h2⟩
  · refine Or.inr ⟨if_neg (fun z => ?_), if_neg h3, h1, h0, h2, h3, h4⟩
    have hn := nI_nneg (k := many r) (by omega)
    rw [← h1, z] at hn
    exact hn (by decide)
theorem lackC {siz : Nat → Int32} {many : Nat → Nat} {r : Nat} {i n : Int32} (h1 : siz r = nI (many r)) : (f_Rows_lacks siz r i n = 1 ∧ f_Model_isPart many r i n = 0) ∨ (f_Rows_lacks siz r i n = 0 ∧ f_Model_isPart many r i n = 1) := by
  unfold f_Rows_lacks f_Model_isPart
  rw [h1]
  (repeat' split) <;> first | exact Or.inl ⟨rfl, rfl⟩ | exact Or.inr ⟨rfl, rfl⟩
theorem part_nat {many : Nat → Nat} {r : Nat} {i n : Int32} (hm : many r ≤ 40) (h : f_Model_isPart many r i n = 1) : ∃ a c, i = nI a ∧ n = nI c ∧ a + c ≤ many r := by
  unfold f_Model_isPart at h
  by_cases c1 : i < 0
  · rw [if_pos c1] at h; exact absurd h (by decide)
  by_cases c2 : n < 0
  · rw [if_neg c1, if_pos c2] at h; exact absurd h (by decide)
  by_cases c3 : nI (many r) < i
  · rw [if_neg c1, if_neg c2, if_pos c3] at h; exact absurd h (by decide)
  rw [if_neg c1, if_neg c2, if_neg c3] at h
  have hi : i < nI (many r + 1) := by
    refine Int32.lt_iff_toInt_lt.mpr ?_
    have e3 : ¬ (nI (many r)).toInt < i.toInt := fun z => c3 (Int32.lt_iff_toInt_lt.mpr z)
    have e1 : (nI (many r) - nI 0).toInt = ((many r : Nat) : Int) - (0 : Nat) := pk_sub_toInt (by omega) (by omega)
    have e2 : (nI (many r + 1) - nI 0).toInt = ((many r + 1 : Nat) : Int) - (0 : Nat) := pk_sub_toInt (by omega) (by omega)
    rw [pk_sub (Nat.zero_le _), Nat.sub_zero] at e1 e2
    rw [e2]
    omega
  obtain ⟨a, ha, rfl⟩ := lt_nat (by omega) c1 hi
  rw [pk_sub (show a ≤ many r by omega)] at h
  by_cases c4 : nI (many r - a) < n
  · rw [if_pos c4] at h; exact absurd h (by decide)
  have hn : n < nI (many r - a + 1) := by
    refine Int32.lt_iff_toInt_lt.mpr ?_
    have e3 : ¬ (nI (many r - a)).toInt < n.toInt := fun z => c4 (Int32.lt_iff_toInt_lt.mpr z)
    have e1 : (nI (many r - a) - nI 0).toInt = ((many r - a : Nat) : Int) - (0 : Nat) := pk_sub_toInt (by omega) (by omega)
    have e2 : (nI (many r - a + 1) - nI 0).toInt = ((many r - a + 1 : Nat) : Int) - (0 : Nat) := pk_sub_toInt (by omega) (by omega)
    rw [pk_sub (Nat.zero_le _), Nat.sub_zero] at e1 e2
    rw [e2]
    omega
  obtain ⟨c, hc, rfl⟩ := lt_nat (by omega) c2 hn
  exact ⟨a, c, rfl, rfl, by omega⟩
