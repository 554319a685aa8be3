theorem ah_all : ((List.range 7).all fun H => decide (f_Day_allHours H = nI (2 ^ H - 1))) = true := by decide +kernel
theorem ah_eq {H : Nat} (h : H ≤ 6) : f_Day_allHours H = nI (2 ^ H - 1) := of_decide_eq_true (List.all_eq_true.mp ah_all H (List.mem_range.mpr (by omega)))
theorem keeps0 {H u : Nat} {ups dow : Nat → Int32} (hH : H ≤ 6) : ∀ n y y4, n + y < 31 → ∃ p, f_Day_keeps_L33 H ups dow u (nI 0) n 0 y4 y = .inl p := by
  intro n
  induction n with
  | zero => intro y y4 _; exact ⟨_, rfl⟩
  | succ n ih =>
    intro y y4 hy
    rw [f_Day_keeps_L33]
    by_cases c : nI y < nI H
    · have g : ¬ ((nI 0 >>> ((nI y) &&& 31)) &&& (1 : Int32)) = (1 : Int32) := fun z => by
        have := (bitT (x := 0) (by decide) (show y < 31 by omega)).mp z
        rw [Nat.zero_div] at this
        exact absurd this (by decide)
      rw [if_pos c, if_neg g, iteF (show ¬ (0 : Int32) < 0 by decide)]
      exact ih _ _ (by omega)
    · rw [if_neg c]; exact ⟨_, rfl⟩
theorem keeps_some {H u : Nat} {kin ups dow : Nat → Int32} (hH : H ≤ 6) : ∃ j, j < 2 ^ H ∧ ¬ f_Day_keeps H kin ups dow u (nI j) = 0 := by
  have hp : 0 < 2 ^ H := Nat.pow_pos (by decide)
  by_cases c : kin u = 5
  · refine ⟨2 ^ H - 1, by omega, ?_⟩
    unfold f_Day_keeps
    rw [if_pos c, if_pos (ah_eq hH).symm]
    decide
  · refine ⟨0, hp, ?_⟩
    unfold f_Day_keeps
    rw [if_neg c]
    obtain ⟨⟨p1, p2, p3⟩, e⟩ := keeps0 (u := u) (ups := ups) (dow := dow) hH (H + 1) 0 (6 : Int32) (by omega)
    rw [e]
    show ¬ (1 : Int32) = 0
    decide
theorem sa_eq {H s : Nat} (hH : H ≤ 6) (hs : s < 2 ^ H) : f_Model_ones (f_Model_startsOf (nI s) H) = f_bitCount (f_startsAmong (nI s)) := of_decide_eq_true (List.all_eq_true.mp (List.all_eq_true.mp sa_all H (List.mem_range.mpr (by omega))) s (List.mem_range.mpr hs))
def lnOK (W : Nat → Nat → Int32) (wi H u : Nat) (kin hig pri ups dow flo sro sco : Nat → Int32) : Prop := flo u = f_Model_floor (W wi) u ∧ hig u = f_Model_roof (W wi) u 0 ∧ sro u = f_Model_roof (W wi) u 1 ∧ pri u = (W wi) ((9 + (8 * u)) + 3) ∧ sco u = f_Model_startCost (W wi) u ∧ ∀ x, f_Day_keeps H kin ups dow u x = f_Model_keeps (W wi) u x H
section LO2
variable {W : Nat → Nat → Int32} {wi H u : Nat} {mpr lp : Nat → Int64} {kin hig pri ups dow flo sro sco : Nat → Int32}
theorem dec_L {lz : Nat → Int64} {ls mlo : Int64} {mal : Int32} (hH : H ≤ 6) (hl : ∀ s, s < 2 ^ H → lz s = lsV W mpr wi u s H) (hk : ∀ x, f_Day_keeps H kin ups dow u x = f_Model_keeps (W wi) u x H) : ∀ k, k ≤ 2 ^ H →
    (f_Lone_decide_L13 lz H kin ups dow u ls (-1) k = (ls, -1) ∧ (f_Model_goesAlone_L5 W mpr wi H u 1 mlo mal k).1 = 1 ∧ ∀ j, j < k → f_Day_keeps H kin ups dow u (nI j) = 0) ∨ (∃ j, j < 64 ∧ (f_Lone_decide_L13 lz H kin ups dow u ls (-1) k).2 = nI j ∧ f_Model_goesAlone_L5 W mpr wi H u 1 mlo mal k = (0, (f_Lone_decide_L13 lz H kin ups dow u ls (-1) k).1, nI j)) := by
  have h64 : 2 ^ H ≤ 2 ^ 6 := Nat.pow_le_pow_right (by decide) hH
  intro k
  induction k with
  | zero => intro _; exact Or.inl ⟨rfl, rfl, fun j h => absurd h (Nat.not_lt_zero _)⟩
  | succ k ih =>
    intro hk2
    have e1 : f_Lone_decide_L13 lz H kin ups dow u ls (-1) (k + 1) = f_Lone_decide_L13s lz H kin ups dow u k (f_Lone_decide_L13 lz H kin ups dow u ls (-1) k).1 (f_Lone_decide_L13 lz H kin ups dow u ls (-1) k).2 := rfl
    have e2 : f_Model_goesAlone_L5 W mpr wi H u 1 mlo mal (k + 1) = f_Model_goesAlone_L5s W mpr wi H u k (f_Model_goesAlone_L5 W mpr wi H u 1 mlo mal k).1 (f_Model_goesAlone_L5 W mpr wi H u 1 mlo mal k).2.1 (f_Model_goesAlone_L5 W mpr wi H u 1 mlo mal k).2.2 := rfl
    have e3 : f_Model_goesAlone_L47 W mpr wi u k (((f_Model_startCost (W wi) u).toInt64) * ((f_Model_ones (f_Model_startsOf (nI k) H)).toInt64)) H = lz k := by
      rw [sa_eq hH (by omega), hl k (by omega)]
      rfl
    rw [e1, e2]
    have i := ih (by omega)
    generalize f_Lone_decide_L13 lz H kin ups dow u ls (-1) k = C at i
    generalize f_Model_goesAlone_L5 W mpr wi H u 1 mlo mal k = M at i
    unfold f_Lone_decide_L13s f_Model_goesAlone_L5s
    dsimp only
    rw [e3, ← hk (nI k)]
    by_cases c : f_Day_keeps H kin ups dow u (nI k) = 0
    · simp only [c, if_true, ite_self]
      rcases i with ⟨i1, i2, i3⟩ | ⟨j, j1, j2, j3⟩
      · refine Or.inl ⟨i1, i2, fun j hj => ?_⟩
        by_cases d : j = k
        · rw [d]; exact c
        · exact i3 j (by omega)
      · exact Or.inr ⟨j, j1, j2, j3⟩
    · simp only [if_neg c]
      rcases i with ⟨i1, i2, i3⟩ | ⟨j, j1, j2, j3⟩
      · rw [i1, i2]
        dsimp only
        rw [iteT (show (-1 : Int32) < 0 by decide), iteT (show (-1 : Int32) < 0 by decide), iteF (show ¬ (1 : Int32) = 0 by decide), iteF (show ¬ (1 : Int32) = 0 by decide), iteF (show ¬ (1 : Int32) = 0 by decide)]
        exact Or.inr ⟨k, by omega, rfl, rfl⟩
      · have hn : ¬ nI j < 0 := nI_nneg (by omega)
        rw [j3, j2]
        dsimp only
        rw [if_neg hn, if_neg hn, iteT (show (0 : Int32) = 0 from rfl), iteT (show (0 : Int32) = 0 from rfl), iteT (show (0 : Int32) = 0 from rfl)]
        by_cases d : lz k < C.1
        · simp only [if_pos d]
          exact Or.inr ⟨k, by omega, rfl, rfl⟩
        · simp only [if_neg d]
          exact Or.inr ⟨j, j1, rfl, rfl⟩
theorem dec_eq {lz : Nat → Int64} {ls mlo : Int64} {mal : Int32} (hH : H ≤ 6) (hn : lnOK W wi H u kin hig pri ups dow flo sro sco) (hp : ∀ h, h < H → lp h = mpr h) :
    (f_Lone_decide lp lz ls H kin hig pri ups dow flo sro sco u).2 = f_Model_goesAlone W mlo mal mpr u wi H ∧ ∃ j, j < 64 ∧ (f_Model_goesAlone W mlo mal mpr u wi H).2 = nI j := by
  obtain ⟨h1, h2, h3, h4, h5, hk⟩ := hn
  have hp0 : 0 < 2 ^ H := Nat.pow_pos (by decide)
  have hl : ∀ s, s < 2 ^ H → f_Lone_fillLosses lp lz H hig pri flo sro sco u s = lsV W mpr wi u s H := fun s hs => L9_sp hH h1 h2 h3 h4 h5 hp H (Nat.le_refl _) s hs
  unfold f_Lone_decide f_Model_goesAlone
  generalize f_Lone_fillLosses lp lz H hig pri flo sro sco u = q at hl
  dsimp only
  rw [show 2 ^ H - 1 + 1 = 2 ^ H by omega]
  rcases dec_L (ls := ls) (mlo := mlo) (mal := mal) hH hl hk (2 ^ H) (Nat.le_refl _) with ⟨-, -, i3⟩ | ⟨j, j1, j2, j3⟩
  · obtain ⟨j, k1, k2⟩ := keeps_some (u := u) (kin := kin) (ups := ups) (dow := dow) hH
    exact absurd (i3 j k1) k2
  · rw [j3, j2]
    exact ⟨rfl, j, j1, rfl⟩
theorem gi_tab : ((List.range 64).all fun s => (List.range 6).all fun h => (decide ((((nI s >>> ((nI h) &&& 31)) &&& (1 : Int32)) = 0) ↔ f_Model_has (nI s) (nI h) = 0)) && (decide ((if (((f_startsAmong (nI s)) >>> ((nI h) &&& 31)) &&& (1 : Int32)) = (1 : Int32) then (1 : Int32) else (0 : Int32)) = f_Model_starts (nI s) (nI h)))) = true := by decide +kernel
theorem gi_eq {s h : Nat} (hs : s < 64) (hh : h < 6) (hn : lnOK W wi H u kin hig pri ups dow flo sro sco) (hp : lp h = mpr h) : f_Lone_givenIn lp (nI s) hig pri flo sro u h = f_Model_givesAlone (W wi) u (nI s) (nI h) (mpr h) := by
  obtain ⟨h1, h2, h3, h4, h5, hk⟩ := hn
  have k := List.all_eq_true.mp (List.all_eq_true.mp gi_tab s (List.mem_range.mpr hs)) h (List.mem_range.mpr hh)
  simp only [Bool.and_eq_true] at k
  have k1 := of_decide_eq_true k.1
  have k2 := of_decide_eq_true k.2
  rw [gA_eq]
  unfold f_Lone_givenIn f_Lone_powerIn
  rw [k2, hp, h1, h2, h3, h4]
  by_cases c : f_Model_has (nI s) (nI h) = 0
  · rw [if_pos c, if_pos (k1.mpr c)]
  · rw [if_neg c, if_neg (fun z => c (k1.mp z))]
    rcases st01 (s := nI s) (h := nI h) with z | z <;> rw [z]
    · rw [iteT (show (0 : Int32) = 0 from rfl)]
    · rw [iteF (show ¬ (1 : Int32) = 0 by decide)]
end LO2
