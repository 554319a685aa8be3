theorem stM_add {x : Nat} {fl rf pr : Nat → Nat} {a b t u : Nat} : stM x fl rf pr (a, b + t) u = ((stM x fl rf pr (a, b) u).1, (stM x fl rf pr (a, b) u).2 + t) := by
  unfold stM
  by_cases c : bt_ x u = true
  · rw [if_pos c, if_pos c]
    show (_, _) = (_, _)
    congr 1
    dsimp only
    omega
  · rw [if_neg c, if_neg c]
theorem stM_le {x : Nat} {fl rf pr : Nat → Nat} {s : Nat × Nat} {u : Nat} : (stM x fl rf pr s u).1 ≤ s.1 := by
  unfold stM
  split
  · exact Nat.sub_le _ _
  · exact Nat.le_refl _
theorem arr_succ {o : Nat → Nat} {n : Nat} : arr o (n + 1) = arr o n ++ [o n] := by
  unfold arr
  rw [List.range_succ, List.map_append]
  rfl
section HC2
variable {hig pri flo sro sco : Nat → Int32} {ord : Nat → Nat} {fl hi sr pr sc : Nat → Nat} {x y U : Nat} {res : Int32}
theorem L103_spec (hx : x < 2 ^ 31) (hy : y < 2 ^ 31) {L : Nat} (hL : L ≤ 1000) (hU : U ≤ 4) (ho : ∀ k, k < U → ord k < U) (hu : ∀ u, u < U → flo u = nI (fl u) ∧ hig u = nI (hi u) ∧ sro u = nI (sr u) ∧ pri u = nI (pr u) ∧ sco u = nI (sc u) ∧ fl u ≤ hi u ∧ fl u ≤ sr u ∧ hi u ≤ 1000 ∧ sr u ≤ 1000) : ∀ k, k ≤ U →
    f_Day_hourCost_L103 hig pri ord flo sro sco (nI x) (nI y) (nI L) (0 : Int32) k = (nI ((arr ord k).foldl (stM x fl (rfN y hi sr) pr) (L, 0)).1, nI (((arr ord k).foldl (stM x fl (rfN y hi sr) pr) (L, 0)).2 + sumL (scE x y sc) (arr ord k))) ∧ ((arr ord k).foldl (stM x fl (rfN y hi sr) pr) (L, 0)).1 ≤ L := by
  intro k
  induction k with
  | zero => intro _; exact ⟨rfl, Nat.le_refl _⟩
  | succ k ih =>
    intro hk
    obtain ⟨i1, i2⟩ := ih (by omega)
    obtain ⟨a1, a2, a3, a4, a5, a6, a7, a8, a9⟩ := hu (ord k) (ho k (by omega))
    have hok := ho k (by omega)
    rw [arr_succ, List.foldl_append, sumL_app]
    show f_Day_hourCost_L103s hig pri ord flo sro sco (nI x) (nI y) k (f_Day_hourCost_L103 hig pri ord flo sro sco (nI x) (nI y) (nI L) (0 : Int32) k).1 (f_Day_hourCost_L103 hig pri ord flo sro sco (nI x) (nI y) (nI L) (0 : Int32) k).2 = (nI (stM x fl (rfN y hi sr) pr _ (ord k)).1, nI ((stM x fl (rfN y hi sr) pr _ (ord k)).2 + (_ + (scE x y sc (ord k) + 0)))) ∧ (stM x fl (rfN y hi sr) pr _ (ord k)).1 ≤ L
    rw [i1]
    generalize (arr ord k).foldl (stM x fl (rfN y hi sr) pr) (L, 0) = s at i2
    obtain ⟨s1, s2⟩ := s
    dsimp only at i2 ⊢
    refine ⟨?_, Nat.le_trans stM_le i2⟩
    rw [hcs hx hy (by omega) a1 a2 a3 a4 a5 a6 a7 a8 a9 (by omega), stM_add]
    congr 2
    omega
def SFN (x : Nat) (fl : Nat → Nat) (u : Nat) : Nat := if bt_ x u then fl u else 0
theorem L15_spec (hx : x < 2 ^ 31) (hy : y < 2 ^ 31) (hU : U ≤ 4) {p q : Int32} (hu : ∀ u, u < U → flo u = nI (fl u) ∧ hig u = nI (hi u) ∧ sro u = nI (sr u)) : ∀ k, k ≤ U → f_Day_hourCost_L15 hig flo sro (nI x) (nI y) p q k = (p - nI (sumU (SFN x fl) k), q + nI (sumU (SFN x (rfN y hi sr)) k)) := by
  intro k
  induction k with
  | zero =>
    intro _
    show (p, q) = (p - nI 0, q + nI 0)
    rw [nI_0, Int32.sub_zero, Int32.add_zero]
  | succ k ih =>
    intro hk
    obtain ⟨a1, a2, a3⟩ := hu k (by omega)
    show f_Day_hourCost_L15s hig flo sro (nI x) (nI y) k (f_Day_hourCost_L15 hig flo sro (nI x) (nI y) p q k).1 (f_Day_hourCost_L15 hig flo sro (nI x) (nI y) p q k).2 = (p - nI (sumU (SFN x fl) k + SFN x fl k), q + nI (sumU (SFN x (rfN y hi sr)) k + SFN x (rfN y hi sr) k))
    rw [ih (by omega)]
    unfold f_Day_hourCost_L15s SFN
    rw [a1, a2, a3]
    by_cases b : x / 2 ^ k % 2 = 1
    · have eb : bt_ x k = true := decide_eq_true b
      simp only [if_pos ((bitT hx (show k < 31 by omega)).mpr b), eb, if_true]
      have er : (if ((nI y >>> (nI k &&& 31)) &&& (1 : Int32)) = (1 : Int32) then nI (sr k) else nI (hi k)) = nI (rfN y hi sr k) := by
        unfold rfN
        by_cases c : y / 2 ^ k % 2 = 1
        · rw [if_pos ((bitT hy (show k < 31 by omega)).mpr c), show bt_ y k = true from decide_eq_true c]; rfl
        · rw [if_neg (fun z => c ((bitT hy (show k < 31 by omega)).mp z)), show bt_ y k = false from decide_eq_false c]; rfl
      rw [er, ← nI_add, ← nI_add]
      congr 1 <;> grind
    · have eb : bt_ x k = false := decide_eq_false b
      simp only [if_neg (fun z => b ((bitT hx (show k < 31 by omega)).mp z)), eb]
      rfl
theorem hc_spec (hx : x < 2 ^ 31) (hy : y < 2 ^ 31) (hU : U ≤ 4) {d r : Nat} (hd : d ≤ 1000) (hr : r ≤ 1000) (hres : res = nI r) (hord : arr ord U = BL pr U 9) (hu : ∀ u, u < U → flo u = nI (fl u) ∧ hig u = nI (hi u) ∧ sro u = nI (sr u) ∧ pri u = nI (pr u) ∧ sco u = nI (sc u) ∧ fl u ≤ hi u ∧ fl u ≤ sr u ∧ hi u ≤ 1000 ∧ sr u ≤ 1000) (hp : ∀ u, u < U → 1 ≤ pr u ∧ pr u ≤ 9)
    (hSF : sumU (SFN x fl) U ≤ 100000) (hSR : sumU (SFN x (rfN y hi sr)) U ≤ 100000) :
    f_Day_hourCost U res hig pri ord flo sro sco (nI d) (nI x) (nI y) = if d < sumU (SFN x fl) U ∨ sumU (SFN x (rfN y hi sr)) U < d + r then (-1000000 : Int32) else nI (((BL pr U 9).foldl (stM x fl (rfN y hi sr) pr) (d - sumU (SFN x fl) U, 0)).2 + sumU (scE x y sc) U) := by
  have ho : ∀ k, k < U → ord k < U := fun k hk => by
    have h1 := arr_get (o := ord) (n := U) (i := k)
    rw [if_pos hk, hord] at h1
    exact (mem_BL _ (List.mem_of_getElem? h1)).1
  unfold f_Day_hourCost
  rw [L15_spec hx hy hU (fun u h => ⟨(hu u h).1, (hu u h).2.1, (hu u h).2.2.1⟩) U (Nat.le_refl _)]
  dsimp only
  have e2 : (-(nI d)) - res + nI (sumU (SFN x (rfN y hi sr)) U) = nI (sumU (SFN x (rfN y hi sr)) U) - nI (d + r) := by
    rw [hres, ← nI_add]
    grind
  rw [e2]
  by_cases c1 : d < sumU (SFN x fl) U
  · rw [if_pos (pk_sneg (by omega) c1), if_pos (Or.inl c1)]
  · have n1 : ¬ nI d - nI (sumU (SFN x fl) U) < 0 := by rw [pk_sub (by omega)]; exact nI_pos (by omega)
    rw [if_neg n1]
    by_cases c2 : sumU (SFN x (rfN y hi sr)) U < d + r
    · rw [if_pos (pk_sneg (by omega) c2), if_pos (Or.inr c2)]
    · have n2 : ¬ nI (sumU (SFN x (rfN y hi sr)) U) - nI (d + r) < 0 := by rw [pk_sub (by omega)]; exact nI_pos (by omega)
      rw [if_neg n2, if_neg (by omega), pk_sub (by omega)]
      rw [(L103_spec hx hy (L := d - sumU (SFN x fl) U) (by omega) hU ho hu U (Nat.le_refl _)).1, hord, sum_BL U hp]
end HC2
