def zI : Nat → Int32 := fun _ => 0
def CO (P : Nat → Nat) : Int32 := (f_Model_bestCost (fun _ k => nI (P k)) zI zI zI zI (-1000000) 0 (P 0) (P 1)).1
theorem CO_of {P : Nat → Nat} {kn : Int64} (h : bestIs (-1000000) P kn) : CO P = f_Search_costOf kn ∧ ∀ (W : Nat → Nat → Int32) (wi : Nat) (gvn costs lst sets : Nat → Int32), mD (W wi) P → (f_Model_bestCost W gvn costs lst sets (-1000000) wi (P 0) (P 1)).1 = CO P := by
  obtain ⟨D, -, -, b3, -⟩ := h (fun _ k => nI (P k)) 0 zI zI zI zI (fun _ _ => rfl)
  refine ⟨b3, fun W wi gvn costs lst sets hm => ?_⟩
  obtain ⟨D2, -, -, c3, -⟩ := h W wi gvn costs lst sets hm
  exact c3.trans b3.symm
def orE (e : Nat → Bool) (lo : Nat) : Nat → Int32
  | 0 => 0
  | k + 1 => if e (lo + k) then orE e lo k ||| ((1 : Int32) <<< ((nI (lo + k)) &&& 31)) else orE e lo k
def cnE (e : Nat → Bool) (lo : Nat) : Nat → Int32
  | 0 => 0
  | k + 1 => if e (lo + k) then cnE e lo k + 1 else cnE e lo k
theorem dec1 {n : Nat} : nI (n + 1) + (-1 : Int32) = nI n := by
  have := nI_decr (n := n + 1) (by omega)
  rw [Nat.add_sub_cancel] at this
  exact this
theorem whoM {P : Nat → Nat} {U H lo n5 N : Nat} {x1 x3 : Int32} (hlo : lo = 0 ∨ lo = 1) (hx : (if x1 < (2 : Int32) then (0 : Int32) else (1 : Int32)) = nI lo) (hN : N ≤ 61) (hn5 : n5 < 41)
    (hCO : ∀ k, k < N → ∀ (W : Nat → Nat → Int32) (wi : Nat) (gvn costs lst sets : Nat → Int32), mD (W wi) (va_up P n5 (lo + k)) → (f_Model_bestCost W gvn costs lst sets (-1000000) wi U H).1 = CO (va_up P n5 (lo + k))) :
    ∀ k, k ≤ N → ∀ fuel, k < fuel → ∀ (y6 y7 y8 : Int32) (Wv : Nat → Nat → Int32) (g c l s : Nat → Int32) (b : Int32), (∀ j, j < 41 → j ≠ n5 → (Wv 2) j = nI (P j)) → ∀ R, f_Model_who_L152 U H x1 x3 n5 fuel y6 y7 y8 (nI (lo + k) + (-1)) Wv g c l s b = R →
      R.1 = y6 ||| (if (1 : Int32) < x1 then orE (fun d => decide (CO (va_up P n5 d) = x3)) lo k else 0) ∧ R.2.1 = y7 + cnE (fun d => decide (CO (va_up P n5 d) = x3)) lo k ∧ ((∃ d, d < k ∧ CO (va_up P n5 (lo + d)) = x3 ∧ (∀ i, i < d → ¬ CO (va_up P n5 (lo + i)) = x3) ∧ R.2.2.1 = nI (lo + d)) ∨ ((∀ d, d < k → ¬ CO (va_up P n5 (lo + d)) = x3) ∧ R.2.2.1 = y8)) ∧ ∀ i, i ≠ 2 → R.2.2.2.2.1 i = Wv i := by
  intro k
  induction k with
  | zero =>
    intro _ fuel hf y6 y7 y8 Wv g c l s b hW R hR
    obtain ⟨f, rfl⟩ : ∃ f, fuel = f + 1 := ⟨fuel - 1, by omega⟩
    rw [f_Model_who_L152, hx] at hR
    have hlt : nI (lo + 0) + (-1 : Int32) < nI lo := by
      rcases hlo with z | z <;> subst z <;> decide
    rw [if_pos hlt] at hR
    subst hR
    refine ⟨?_, ?_, Or.inr ⟨fun d hd => absurd hd (Nat.not_lt_zero _), rfl⟩, fun _ _ => rfl⟩
    · show y6 = y6 ||| (if (1 : Int32) < x1 then 0 else 0)
      rw [ite_self, Int32.or_zero]
    · show y7 = y7 + 0
      rw [Int32.add_zero]
  | succ k ih =>
    intro hk fuel hf y6 y7 y8 Wv g c l s b hW R hR
    obtain ⟨f, rfl⟩ : ∃ f, fuel = f + 1 := ⟨fuel - 1, by omega⟩
    rw [f_Model_who_L152, hx, ← Nat.add_assoc, dec1] at hR
    rw [if_neg (nI_nlt (show lo ≤ lo + k by omega) (by omega))] at hR
    have hm : mD ((va_up Wv 2 (upd (Wv 2) n5 (nI (lo + k)))) 2) (va_up P n5 (lo + k)) := by
      intro j hj
      rw [vu_self]
      by_cases e : j = n5
      · rw [e, pk_us, vu_self]
      · rw [pk_un e, vu_ne e]; exact hW j hj e
    have hv := hCO k (by omega) _ 2 g c l s hm
    generalize f_Model_bestCost (va_up Wv 2 (upd (Wv 2) n5 (nI (lo + k)))) g c l s (-1000000) 2 U H = m at hR hv
    rw [lt_eq] at hR
    obtain ⟨i1, i2, i3, i4⟩ := ih (by omega) f (by omega) _ _ _ _ _ _ _ _ _ (fun j hj hne => by rw [vu_self, pk_un hne]; exact hW j hj hne) R hR
    rw [i1, i2, hv]
    refine ⟨?_, ?_, ?_, fun i hi => by rw [i4 i hi, vu_ne hi]⟩
    · show _ = y6 ||| (if (1 : Int32) < x1 then (if decide (CO (va_up P n5 (lo + k)) = x3) then orE (fun d => decide (CO (va_up P n5 d) = x3)) lo k ||| ((1 : Int32) <<< ((nI (lo + k)) &&& 31)) else orE (fun d => decide (CO (va_up P n5 d) = x3)) lo k) else 0)
      by_cases a : (1 : Int32) < x1
      · rw [if_pos a, if_pos a, if_pos a]
        by_cases e : CO (va_up P n5 (lo + k)) = x3
        · rw [if_pos e, if_pos (decide_eq_true e), Int32.or_assoc, Int32.or_comm ((1 : Int32) <<< _)]
        · rw [if_neg e, if_neg (fun z => e (of_decide_eq_true z))]
      · rw [if_neg a, if_neg a, if_neg a]
        simp only [Int32.or_zero, ite_self]
    · show _ = y7 + (if decide (CO (va_up P n5 (lo + k)) = x3) then cnE (fun d => decide (CO (va_up P n5 d) = x3)) lo k + 1 else cnE (fun d => decide (CO (va_up P n5 d) = x3)) lo k)
      by_cases e : CO (va_up P n5 (lo + k)) = x3
      · rw [if_pos e, if_pos (decide_eq_true e), Int32.add_assoc, Int32.add_comm 1]
      · rw [if_neg e, if_neg (fun z => e (of_decide_eq_true z))]
    · rcases i3 with ⟨d, d1, d2, d3, d4⟩ | ⟨d1, d2⟩
      · exact Or.inl ⟨d, by omega, d2, d3, d4⟩
      · by_cases e : CO (va_up P n5 (lo + k)) = x3
        · exact Or.inl ⟨k, by omega, e, d1, by rw [d2, hv, if_pos e]⟩
        · refine Or.inr ⟨fun d hd => ?_, by rw [d2, hv, if_neg e]⟩
          by_cases z : d = k
          · rw [z]; exact e
          · exact d1 d (by omega)
section WHC
variable {P : Nat → Nat} {n5 : Nat} {x3 : Int32}
theorem cd_L {U sk : Nat} {res : Int32} {hig pri flo sro sco con cst : Nat → Int32} {ord : Nat → Nat} {car : Nat → Int64} (h : ∀ d, d ≤ 60 → f_Search_costAround con cst car sk U res hig pri ord flo sro sco (nI d) = CO (va_up P n5 d)) : ∀ k, k ≤ 61 → f_UH_countDemands_L17 U res hig pri ord flo sro sco con cst car sk x3 0 k = cnE (fun d => decide (CO (va_up P n5 d) = x3)) 0 k := by
  intro k
  induction k with
  | zero => intro _; rfl
  | succ k ih =>
    intro hk
    show f_UH_countDemands_L17s U res hig pri ord flo sro sco con cst car sk x3 k (f_UH_countDemands_L17 U res hig pri ord flo sro sco con cst car sk x3 0 k) = (if decide (CO (va_up P n5 (0 + k)) = x3) then cnE _ 0 k + 1 else cnE _ 0 k)
    unfold f_UH_countDemands_L17s
    rw [ih (by omega), h k (by omega), Nat.zero_add]
    by_cases e : CO (va_up P n5 k) = x3
    · rw [if_pos e, if_pos (decide_eq_true e)]
    · rw [if_neg e, if_neg (fun z => e (of_decide_eq_true z))]
theorem ld_L {U sk su ss pa pb ps : Nat} {res : Int32} {hig pri flo sro sco con cst : Nat → Int32} {ord sc sz wt : Nat → Nat} {cpa car : Nat → Int64} {tof ton : Nat → Nat → Int32} {w3 : Nat → Nat → Int64} (h : ∀ d, d ≤ 60 → f_Search_costAround con cst car sk U res hig pri ord flo sro sco (nI d) = CO (va_up P n5 d)) : ∀ n y, n + y = 62 → (∀ d, d < y → ¬ CO (va_up P n5 d) = x3) →
    (∃ d, d ≤ 60 ∧ CO (va_up P n5 d) = x3 ∧ (∀ i, i < d → ¬ CO (va_up P n5 i) = x3) ∧ f_UH_leastDemand_L14 U res hig pri ord flo sro sco con cst cpa car sc sz wt tof ton w3 pa pb ps su ss sk x3 n y = .inr (nI d, cpa, car, sc, sz, wt, tof, ton, w3, pa, pb, ps, su, ss, sk)) ∨ ((∀ d, d ≤ 60 → ¬ CO (va_up P n5 d) = x3) ∧ ∃ z, f_UH_leastDemand_L14 U res hig pri ord flo sro sco con cst cpa car sc sz wt tof ton w3 pa pb ps su ss sk x3 n y = .inl z) := by
  intro n
  induction n with
  | zero => intro y hy hb; exact Or.inr ⟨fun d hd => hb d (by omega), y, rfl⟩
  | succ n ih =>
    intro y hy hb
    rw [f_UH_leastDemand_L14]
    by_cases c : y ≤ 60
    · rw [iteF (show ¬ (60 : Int32) < nI y from nI_nlt (a := 60) c (by omega)), h y c]
      by_cases e : CO (va_up P n5 y) = x3
      · rw [if_pos e]
        exact Or.inl ⟨y, c, e, hb, rfl⟩
      · rw [if_neg e]
        refine ih (y + 1) (by omega) (fun d hd => ?_)
        by_cases z : d = y
        · rw [z]; exact e
        · exact hb d (by omega)
    · rw [iteT (show (60 : Int32) < nI y from nI_lt (a := 60) (by omega) (by omega))]
      exact Or.inr ⟨fun d hd => hb d (by omega), y, rfl⟩
end WHC
