theorem hasz {x k : Nat} (hx : x < 2 ^ 31) (hk : k < 31) : f_Model_has (nI x) (nI k) = if bt_ x k then 1 else 0 := has_nat hx hk
theorem has0 {x k : Nat} (hx : x < 2 ^ 31) (hk : k < 31) : (f_Model_has (nI x) (nI k) = (0 : Int32)) ↔ bt_ x k = false := by
  rw [hasz hx hk]
  cases bt_ x k
  · exact ⟨fun _ => rfl, fun _ => rfl⟩
  · exact ⟨fun h => absurd h (by decide), fun h => by cases h⟩
theorem SFN_f {x k : Nat} {g : Nat → Nat} (h : bt_ x k = false) : SFN x g k = 0 := by unfold SFN; rw [h]; rfl
theorem SFN_t {x k : Nat} {g : Nat → Nat} (h : bt_ x k = true) : SFN x g k = g k := by unfold SFN; rw [h]; rfl
section MH
variable {W : Nat → Nat → Int32} {wi U x y : Nat} {fl hi sr pr sc : Nat → Nat}
theorem roof_eq {f : Nat → Int32} {u : Nat} (hy : y < 2 ^ 31) (hu : u < 31) (h0 : f_Model_roof f u 0 = nI (hi u)) (h1 : f_Model_roof f u 1 = nI (sr u)) : f_Model_roof f u (f_Model_has (nI y) (nI u)) = nI (rfN y hi sr u) := by
  rw [hasz hy hu]
  unfold rfN
  cases bt_ y u
  · exact h0
  · exact h1
theorem sumOf_eq {f : Nat → Int32} (hx : x < 2 ^ 31) (hy : y < 2 ^ 31) (hU : U ≤ 4) (hu : ∀ u, u < U → f_Model_floor f u = nI (fl u) ∧ f_Model_roof f u 0 = nI (hi u) ∧ f_Model_roof f u 1 = nI (sr u)) : f_Model_sumOf f (nI x) (nI y) 0 U = nI (sumU (SFN x fl) U) ∧ f_Model_sumOf f (nI x) (nI y) 1 U = nI (sumU (SFN x (rfN y hi sr)) U) := by
  have key : ∀ k, k ≤ U → f_Model_sumOf_L6 f (nI x) (nI y) 0 0 k = nI (sumU (SFN x fl) k) ∧ f_Model_sumOf_L6 f (nI x) (nI y) 1 0 k = nI (sumU (SFN x (rfN y hi sr)) k) := by
    intro k
    induction k with
    | zero => intro _; exact ⟨rfl, rfl⟩
    | succ k ih =>
      intro hk
      obtain ⟨i1, i2⟩ := ih (by omega)
      obtain ⟨a1, a2, a3⟩ := hu k (by omega)
      have er := roof_eq (y := y) (hi := hi) (sr := sr) hy (show k < 31 by omega) a2 a3
      show f_Model_sumOf_L6s f (nI x) (nI y) 0 k (f_Model_sumOf_L6 f (nI x) (nI y) 0 0 k) = nI (sumU (SFN x fl) k + SFN x fl k) ∧ f_Model_sumOf_L6s f (nI x) (nI y) 1 k (f_Model_sumOf_L6 f (nI x) (nI y) 1 0 k) = nI (sumU (SFN x (rfN y hi sr)) k + SFN x (rfN y hi sr) k)
      unfold f_Model_sumOf_L6s
      rw [i1, i2, a1, er]
      cases hb : bt_ x k
      · have hz := (has0 hx (show k < 31 by omega)).mpr hb
        rw [SFN_f hb, SFN_f hb]
        exact ⟨by rw [if_pos hz, Int32.add_zero, Nat.add_zero], by rw [if_pos hz, Int32.add_zero, Nat.add_zero]⟩
      · rw [SFN_t hb, SFN_t hb]
        have hn : ¬ f_Model_has (nI x) (nI k) = (0 : Int32) := fun z => by rw [(has0 hx (by omega)).mp z] at hb; cases hb
        rw [if_neg hn, iteT (show (0 : Int32) = 0 from rfl), if_neg hn, iteF (show ¬ (1 : Int32) = 0 by decide), nI_add, nI_add]
        exact ⟨rfl, rfl⟩
  exact key U (Nat.le_refl _)
theorem met_eq {f : Nat → Int32} {h d r : Nat} (hx : x < 2 ^ 31) (hy : y < 2 ^ 31) (hU : U ≤ 4) (hu : ∀ u, u < U → f_Model_floor f u = nI (fl u) ∧ f_Model_roof f u 0 = nI (hi u) ∧ f_Model_roof f u 1 = nI (sr u)) (hd : f (3 + h) = nI d) (hr : f 2 = nI r) (hd2 : d ≤ 1000) (hr2 : r ≤ 1000) (hSF : sumU (SFN x fl) U ≤ 100000) (hSR : sumU (SFN x (rfN y hi sr)) U ≤ 100000) :
    f_Model_isMet f h (nI x) (nI y) U = if d < sumU (SFN x fl) U ∨ sumU (SFN x (rfN y hi sr)) U < d + r then 0 else 1 := by
  obtain ⟨s1, s2⟩ := sumOf_eq hx hy hU hu
  unfold f_Model_isMet
  rw [s1, s2, hd, hr, nI_add]
  by_cases c1 : d < sumU (SFN x fl) U
  · rw [if_pos (nI_lt c1 (by omega)), if_pos (Or.inl c1)]
  · rw [if_neg (nI_nlt (by omega) (by omega))]
    by_cases c2 : sumU (SFN x (rfN y hi sr)) U < d + r
    · rw [if_pos (nI_lt c2 (by omega)), if_pos (Or.inr c2)]
    · rw [if_neg (nI_nlt (by omega) (by omega)), if_neg (by omega)]
theorem L22_eq (hx : x < 2 ^ 31) (hy : y < 2 ^ 31) (hU : U ≤ 4) {gvn : Nat → Int32} (hu : ∀ u, u < U → f_Model_floor (W wi) u = nI (fl u) ∧ f_Model_startCost (W wi) u = nI (sc u)) : ∀ k, k ≤ U → (f_Model_shares_L22 W wi (nI x) (nI y) 0 gvn k).1 = nI (sumU (SFN y sc) k) ∧ ∀ u, u < k → (f_Model_shares_L22 W wi (nI x) (nI y) 0 gvn k).2 u = nI (SFN x fl u) := by
  intro k
  induction k with
  | zero => intro _; exact ⟨rfl, fun u h => absurd h (Nat.not_lt_zero _)⟩
  | succ k ih =>
    intro hk
    obtain ⟨i1, i2⟩ := ih (by omega)
    obtain ⟨a1, a2⟩ := hu k (by omega)
    have e : f_Model_shares_L22 W wi (nI x) (nI y) 0 gvn (k + 1) = f_Model_shares_L22s W wi (nI x) (nI y) k (f_Model_shares_L22 W wi (nI x) (nI y) 0 gvn k).1 (f_Model_shares_L22 W wi (nI x) (nI y) 0 gvn k).2 := rfl
    rw [e]
    unfold f_Model_shares_L22s
    rw [i1, a1, a2]
    dsimp only
    refine ⟨?_, fun u hu2 => ?_⟩
    · show _ = nI (sumU (SFN y sc) k + SFN y sc k)
      cases hb : bt_ y k
      · rw [if_pos ((has0 hy (by omega)).mpr hb), SFN_f hb, Int32.add_zero, Nat.add_zero]
      · have hn : ¬ f_Model_has (nI y) (nI k) = (0 : Int32) := fun z => by rw [(has0 hy (by omega)).mp z] at hb; cases hb
        rw [if_neg hn, nI_add, SFN_t hb]
    · by_cases q : u = k
      · subst q
        rw [pk_us]
        unfold SFN
        cases hb : bt_ x u
        · rw [if_pos ((has0 hx (by omega)).mpr hb)]; rfl
        · have hn : ¬ f_Model_has (nI x) (nI u) = (0 : Int32) := fun z => by rw [(has0 hx (by omega)).mp z] at hb; cases hb
          rw [if_neg hn]; rfl
      · rw [pk_un q]; exact i2 u (by omega)
theorem L100_eq (hx : x < 2 ^ 31) (hy : y < 2 ^ 31) (hU : U ≤ 4) {q L C : Nat} (hq : q < 100) (hL : L ≤ 1000) {g : Nat → Int32} (hu : ∀ u, u < U → f_Model_roof (W wi) u 0 = nI (hi u) ∧ f_Model_roof (W wi) u 1 = nI (sr u) ∧ (W wi) ((9 + (8 * u)) + 3) = nI (pr u) ∧ pr u < 100 ∧ fl u ≤ hi u ∧ fl u ≤ sr u ∧ hi u ≤ 1000 ∧ sr u ≤ 1000) (hg : ∀ u, u < U → bt_ x u = true → pr u = q → g u = nI (fl u)) : ∀ k, k ≤ U →
    ∃ g', f_Model_shares_L100 W wi (nI x) (nI y) q (nI L) (nI C) g k = (nI ((bkt pr q k).foldl (stM x fl (rfN y hi sr) pr) (L, C)).1, nI ((bkt pr q k).foldl (stM x fl (rfN y hi sr) pr) (L, C)).2, g') ∧ ((bkt pr q k).foldl (stM x fl (rfN y hi sr) pr) (L, C)).1 ≤ L ∧ ∀ u, (pr u ≠ q ∨ k ≤ u) → g' u = g u := by
  intro k
  induction k with
  | zero => intro _; exact ⟨g, rfl, Nat.le_refl _, fun u _ => rfl⟩
  | succ k ih =>
    intro hk
    obtain ⟨g', i1, i2, i3⟩ := ih (by omega)
    obtain ⟨a2, a3, a4, a5, a6, a7, a8, a9⟩ := hu k (by omega)
    have er := roof_eq (y := y) (hi := hi) (sr := sr) hy (show k < 31 by omega) a2 a3
    have e : f_Model_shares_L100 W wi (nI x) (nI y) q (nI L) (nI C) g (k + 1) = f_Model_shares_L100s W wi (nI x) (nI y) q k (f_Model_shares_L100 W wi (nI x) (nI y) q (nI L) (nI C) g k).1 (f_Model_shares_L100 W wi (nI x) (nI y) q (nI L) (nI C) g k).2.1 (f_Model_shares_L100 W wi (nI x) (nI y) q (nI L) (nI C) g k).2.2 := rfl
    rw [e, i1, bkt_succ, List.foldl_append]
    dsimp only
    generalize (bkt pr q k).foldl (stM x fl (rfN y hi sr) pr) (L, C) = s at i2
    obtain ⟨s1, s2⟩ := s
    dsimp only at i2 ⊢
    unfold f_Model_shares_L100s
    rw [er, a4]
    by_cases hpq : pr k = q
    · rw [if_pos hpq]
      show ∃ g'', _ = (nI (stM x fl (rfN y hi sr) pr (s1, s2) k).1, nI (stM x fl (rfN y hi sr) pr (s1, s2) k).2, g'') ∧ (stM x fl (rfN y hi sr) pr (s1, s2) k).1 ≤ L ∧ _
      unfold stM
      cases hb : bt_ x k
      · simp only [if_pos ((has0 hx (show k < 31 by omega)).mpr hb)]
        exact ⟨g', rfl, i2, fun u h => i3 u (by omega)⟩
      · have hn : ¬ f_Model_has (nI x) (nI k) = (0 : Int32) := fun z => by rw [(has0 hx (by omega)).mp z] at hb; cases hb
        have hgk : g' k = nI (fl k) := (i3 k (Or.inr (Nat.le_refl _))).trans (hg k (by omega) hb hpq)
        have hrf : fl k ≤ rfN y hi sr k ∧ rfN y hi sr k ≤ 1000 := by unfold rfN; split <;> omega
        have em : (if nI (rfN y hi sr k - fl k) < nI s1 then nI (rfN y hi sr k - fl k) else nI s1) = nI (min s1 (rfN y hi sr k - fl k)) := by
          by_cases c : rfN y hi sr k - fl k < s1
          · rw [if_pos (nI_lt c (by omega)), Nat.min_eq_right (by omega)]
          · rw [if_neg (nI_nlt (by omega) (by omega)), Nat.min_eq_left (by omega)]
        have eq1 : nI (pr k) = nI q := by rw [hpq]
        simp only [if_neg hn, if_pos eq1, hgk, pk_sub hrf.1, em, pk_us, if_true]
        refine ⟨upd g' k (nI (fl k) + nI (min s1 (rfN y hi sr k - fl k))), ?_, by omega, fun u h => ?_⟩
        · rw [pk_sub (Nat.min_le_left _ _), nI_add, pk_mul, nI_add, hpq]
        · have huk : u ≠ k := fun z => by
            subst z
            rcases h with w | w
            · exact w hpq
            · omega
          rw [pk_un huk]
          exact i3 u (by omega)
    · rw [if_neg hpq]
      have hne : ¬ nI (pr k) = nI q := fun z => hpq ((nI_eq (by omega) (by omega)).mp z)
      simp only [if_neg hne, ite_self]
      exact ⟨g', rfl, i2, fun u h => i3 u (by omega)⟩
end MH
