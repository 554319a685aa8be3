section MH2
variable {W : Nat → Nat → Int32} {wi U x y : Nat} {fl hi sr pr sc : Nat → Nat}
theorem L90_eq (hx : x < 2 ^ 31) (hy : y < 2 ^ 31) (hU : U ≤ 4) {L C : Nat} (hL : L ≤ 1000) {g : Nat → Int32} (hu : ∀ u, u < U → f_Model_roof (W wi) u 0 = nI (hi u) ∧ f_Model_roof (W wi) u 1 = nI (sr u) ∧ (W wi) ((9 + (8 * u)) + 3) = nI (pr u) ∧ pr u < 100 ∧ fl u ≤ hi u ∧ fl u ≤ sr u ∧ hi u ≤ 1000 ∧ sr u ≤ 1000) (hg : ∀ u, u < U → bt_ x u = true → g u = nI (fl u)) : ∀ j, j ≤ 9 →
    ∃ g', f_Model_shares_L90 W wi U (nI x) (nI y) 1 (nI L) (nI C) g j = (nI ((BL pr U j).foldl (stM x fl (rfN y hi sr) pr) (L, C)).1, nI ((BL pr U j).foldl (stM x fl (rfN y hi sr) pr) (L, C)).2, g') ∧ ((BL pr U j).foldl (stM x fl (rfN y hi sr) pr) (L, C)).1 ≤ L ∧ ∀ u, u < U → bt_ x u = true → j < pr u → g' u = nI (fl u) := by
  intro j
  induction j with
  | zero => intro _; exact ⟨g, rfl, Nat.le_refl _, fun u h1 h2 _ => hg u h1 h2⟩
  | succ j ih =>
    intro hj
    obtain ⟨g', i1, i2, i3⟩ := ih (by omega)
    have e : f_Model_shares_L90 W wi U (nI x) (nI y) 1 (nI L) (nI C) g (j + 1) = f_Model_shares_L90s W wi U (nI x) (nI y) 1 j (f_Model_shares_L90 W wi U (nI x) (nI y) 1 (nI L) (nI C) g j).1 (f_Model_shares_L90 W wi U (nI x) (nI y) 1 (nI L) (nI C) g j).2.1 (f_Model_shares_L90 W wi U (nI x) (nI y) 1 (nI L) (nI C) g j).2.2 := rfl
    have eb : BL pr U (j + 1) = BL pr U j ++ bkt pr (j + 1) U := rfl
    rw [e, i1, eb, List.foldl_append]
    dsimp only
    generalize (BL pr U j).foldl (stM x fl (rfN y hi sr) pr) (L, C) = s at i2
    obtain ⟨s1, s2⟩ := s
    dsimp only at i2 ⊢
    obtain ⟨g2, k1, k2, k3⟩ := L100_eq (W := W) (wi := wi) (fl := fl) (hi := hi) (sr := sr) (pr := pr) hx hy hU (q := j + 1) (L := s1) (C := s2) (by omega) (by omega) hu (fun u h1 h2 h3 => i3 u h1 h2 (by omega)) U (Nat.le_refl _)
    unfold f_Model_shares_L90s
    rw [Nat.add_comm 1 j, k1]
    exact ⟨g2, rfl, Nat.le_trans k2 i2, fun u h1 h2 h3 => (k3 u (Or.inl (by omega))).trans (i3 u h1 h2 (by omega))⟩
theorem fold_add : ∀ (l : List Nat) (a b t : Nat), l.foldl (stM x fl (rfN y hi sr) pr) (a, b + t) = ((l.foldl (stM x fl (rfN y hi sr) pr) (a, b)).1, (l.foldl (stM x fl (rfN y hi sr) pr) (a, b)).2 + t) := by
  intro l
  induction l with
  | nil => intro a b t; rfl
  | cons u l ih =>
    intro a b t
    show l.foldl (stM x fl (rfN y hi sr) pr) (stM x fl (rfN y hi sr) pr (a, b + t) u) = _
    rw [stM_add, ih]
    rfl
theorem shares_eq (hx : x < 2 ^ 31) (hy : y < 2 ^ 31) (hU : U ≤ 4) {h d : Nat} {gvn : Nat → Int32} (hd : (W wi) (3 + h) = nI d) (hd2 : d ≤ 1000) (hSF : sumU (SFN x fl) U ≤ d)
    (hu : ∀ u, u < U → f_Model_floor (W wi) u = nI (fl u) ∧ f_Model_startCost (W wi) u = nI (sc u) ∧ f_Model_roof (W wi) u 0 = nI (hi u) ∧ f_Model_roof (W wi) u 1 = nI (sr u) ∧ (W wi) ((9 + (8 * u)) + 3) = nI (pr u) ∧ pr u < 100 ∧ fl u ≤ hi u ∧ fl u ≤ sr u ∧ hi u ≤ 1000 ∧ sr u ≤ 1000) :
    (f_Model_shares W gvn h (nI x) (nI y) wi U).1 = nI (((BL pr U 9).foldl (stM x fl (rfN y hi sr) pr) (d - sumU (SFN x fl) U, 0)).2 + sumU (SFN y sc) U) := by
  obtain ⟨s1, -⟩ := sumOf_eq (f := W wi) (fl := fl) (hi := hi) (sr := sr) hx hy hU (fun u h => ⟨(hu u h).1, (hu u h).2.2.1, (hu u h).2.2.2.1⟩)
  obtain ⟨l1, l2⟩ := L22_eq (W := W) (wi := wi) (x := x) (y := y) (fl := fl) (sc := sc) hx hy hU (gvn := gvn) (fun u h => ⟨(hu u h).1, (hu u h).2.1⟩) U (Nat.le_refl _)
  unfold f_Model_shares
  generalize f_Model_shares_L22 W wi (nI x) (nI y) (0 : Int32) gvn U = q1 at l1 l2
  dsimp only
  rw [l1, hd, s1, pk_sub hSF]
  obtain ⟨g', k1, -, -⟩ := L90_eq (W := W) (wi := wi) (x := x) (y := y) (fl := fl) (hi := hi) (sr := sr) (pr := pr) hx hy hU (L := d - sumU (SFN x fl) U) (C := sumU (SFN y sc) U) (by omega) (g := q1.2) (fun u h => (hu u h).2.2) (fun u h1 h2 => by rw [l2 u h1, SFN_t h2]) 9 (Nat.le_refl _)
  show (f_Model_shares_L90 W wi U (nI x) (nI y) 1 (nI (d - sumU (SFN x fl) U)) (nI (sumU (SFN y sc) U)) q1.2 9).2.1 = _
  rw [k1]
  dsimp only
  have := fold_add (x := x) (y := y) (fl := fl) (hi := hi) (sr := sr) (pr := pr) (BL pr U 9) (d - sumU (SFN x fl) U) 0 (sumU (SFN y sc) U)
  rw [Nat.zero_add] at this
  rw [this]
theorem sumU_congr {g g' : Nat → Nat} : ∀ {n : Nat}, (∀ u, u < n → g u = g' u) → sumU g n = sumU g' n := by
  intro n
  induction n with
  | zero => intro _; rfl
  | succ n ih => intro h; show sumU g n + g n = sumU g' n + g' n; rw [ih (fun u hu => h u (by omega)), h n (by omega)]
theorem sumU_le {g : Nat → Nat} {B : Nat} : ∀ {n : Nat}, (∀ u, u < n → g u ≤ B) → sumU g n ≤ n * B := by
  intro n
  induction n with
  | zero => intro _; exact Nat.zero_le _
  | succ n ih =>
    intro h
    show sumU g n + g n ≤ (n + 1) * B
    rw [Nat.add_mul, Nat.one_mul]
    exact Nat.add_le_add (ih (fun u hu => h u (by omega))) (h n (by omega))
theorem fold_bd {rf : Nat → Nat} : ∀ (l : List Nat) (a b : Nat), (∀ u, u ∈ l → fl u ≤ 100 ∧ rf u ≤ 100 ∧ pr u ≤ 9) → (l.foldl (stM x fl rf pr) (a, b)).2 ≤ b + l.length * 1800 := by
  intro l
  induction l with
  | nil => intro a b _; exact Nat.le_add_right _ _
  | cons u l ih =>
    intro a b h
    have hu := h u (List.mem_cons_self ..)
    have hl : ∀ v, v ∈ l → fl v ≤ 100 ∧ rf v ≤ 100 ∧ pr v ≤ 9 := fun v hv => h v (List.mem_cons_of_mem _ hv)
    show (l.foldl (stM x fl rf pr) (stM x fl rf pr (a, b) u)).2 ≤ b + (l.length + 1) * 1800
    rw [Nat.add_mul, Nat.one_mul]
    by_cases c : bt_ x u = true
    · have es : stM x fl rf pr (a, b) u = (a - min a (rf u - fl u), b + (fl u + min a (rf u - fl u)) * pr u) := by unfold stM; rw [if_pos c]
      rw [es]
      have k := ih (a - min a (rf u - fl u)) (b + (fl u + min a (rf u - fl u)) * pr u) hl
      have k2 : (fl u + min a (rf u - fl u)) * pr u ≤ 200 * 9 := Nat.mul_le_mul (by omega) hu.2.2
      generalize (fl u + min a (rf u - fl u)) * pr u = w at k k2 ⊢
      generalize l.length * 1800 = n at k ⊢
      exact Nat.le_trans k (by omega)
    · have es : stM x fl rf pr (a, b) u = (a, b) := by unfold stM; rw [if_neg c]
      rw [es]
      have k := ih a b hl
      generalize l.length * 1800 = n at k ⊢
      exact Nat.le_trans k (by omega)
end MH2
