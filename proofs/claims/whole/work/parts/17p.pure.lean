section KC
variable {P : Nat → Nat} {u : Nat} {v : Int32} {con cst : Nat → Int32} {cpa : Nat → Int64} {sc sz wt : Nat → Nat} {tof ton : Nat → Nat → Int32} {w3 : Nat → Nat → Int64} {pa pb ps su ss sk : Nat} {H U : Nat} {res : Int32} {dem kin low hig pri sta ups dow onn : Nat → Int32} {ord : Nat → Nat} {flo sro sco : Nat → Int32}
theorem kc_L (hP : nOK P) (hu : u < P 0) (hc : cD P H U res dem kin low hig pri sta ups dow onn) (hs : cS P ord flo sro sco) (ht : tbl con cst) (hpm : perm3 pa pb ps) : ∀ k, k ≤ 5 → ∀ A, f_UH_kindsThatCost_L16 con cst H U res dem low hig pri sta (fun j => P ((9 + (8 * j)) + 5)) (fun j => P ((9 + (8 * j)) + 6)) u v 1 0 cpa sc sz wt tof ton w3 pa ps su ss sk kin ord flo sro sco k = A → A.1 = orE (fun d => decide (CO (va_up P (9 + (8 * u)) d) = v)) 1 k ∧ perm3 A.2.2.2.2.2.2.2.2.1 pb A.2.2.2.2.2.2.2.2.2.1 ∧ ∃ Q : Nat → Nat, nOK Q ∧ cD Q H U res dem A.2.2.2.2.2.2.2.2.2.2.2.2.2.1 low hig pri sta ups dow onn ∧ cS Q A.2.2.2.2.2.2.2.2.2.2.2.2.2.2.1 A.2.2.2.2.2.2.2.2.2.2.2.2.2.2.2.1 A.2.2.2.2.2.2.2.2.2.2.2.2.2.2.2.2.1 A.2.2.2.2.2.2.2.2.2.2.2.2.2.2.2.2.2 ∧ ∀ j, j ≠ 9 + (8 * u) → Q j = P j := by
  intro k
  induction k with
  | zero => intro _ A hA; subst hA; exact ⟨rfl, hpm, P, hP, hc, hs, fun _ _ => rfl⟩
  | succ k ih =>
    intro hk A hA
    rw [f_UH_kindsThatCost_L16] at hA
    generalize hB : f_UH_kindsThatCost_L16 con cst H U res dem low hig pri sta (fun j => P ((9 + (8 * j)) + 5)) (fun j => P ((9 + (8 * j)) + 6)) u v 1 0 cpa sc sz wt tof ton w3 pa ps su ss sk kin ord flo sro sco k = B at hA
    obtain ⟨i1, i2, Q, q1, q2', q3, q4⟩ := ih (by omega) B hB
    unfold f_UH_kindsThatCost_L16s at hA
    generalize hq2 : f_Day_putKind U B.2.2.2.2.2.2.2.2.2.2.2.2.2.1 low hig pri sta B.2.2.2.2.2.2.2.2.2.2.2.2.2.2.1 B.2.2.2.2.2.2.2.2.2.2.2.2.2.2.2.1 B.2.2.2.2.2.2.2.2.2.2.2.2.2.2.2.2.1 B.2.2.2.2.2.2.2.2.2.2.2.2.2.2.2.2.2 u (nI (1 + k)) = q2 at hA
    rw [lt_eq] at hA
    have q0 : Q 0 = P 0 := q4 0 (by omega)
    obtain ⟨k1, k2, k3⟩ := put_kind q1 (show u < Q 0 by rw [q0]; exact hu) (show 1 ≤ 1 + k ∧ 1 + k ≤ 5 by omega) q2' q3.2.1 hq2
    have eQ : va_up Q (9 + (8 * u)) (1 + k) = va_up P (9 + (8 * u)) (1 + k) := by
      funext j
      by_cases c : j = 9 + (8 * u)
      · rw [c, vu_self, vu_self]
      · rw [vu_ne c, vu_ne c, q4 j c]
    rw [eQ] at k1 k2 k3
    have hb := best_is (lost := -1000000) (wo := -1) (cpa := B.2.1) (ssc := B.2.2.1) (ssz := B.2.2.2.1) (swt := B.2.2.2.2.1) (tof := B.2.2.2.2.2.1) (ton := B.2.2.2.2.2.2.1) (w3 := B.2.2.2.2.2.2.2.1) (pa := B.2.2.2.2.2.2.2.2.1) (ps := B.2.2.2.2.2.2.2.2.2.1) k1 (by decide) k2 k3 ht i2.2.2.2.2.1 (Or.inl ⟨rfl, rfl⟩)
    have zu : (fun j => va_up P (9 + (8 * u)) (1 + k) ((9 + (8 * j)) + 5)) = fun j => P ((9 + (8 * j)) + 5) := by
      funext j; rw [vu_ne (by omega)]
    have zd : (fun j => va_up P (9 + (8 * u)) (1 + k) ((9 + (8 * j)) + 6)) = fun j => P ((9 + (8 * j)) + 6) := by
      funext j; rw [vu_ne (by omega)]
    rw [zu, zd] at hb
    have hsw := fb_sw (R := f_Search_findBest con cst B.2.1 B.2.2.1 B.2.2.2.1 B.2.2.2.2.1 B.2.2.2.2.2.1 B.2.2.2.2.2.2.1 B.2.2.2.2.2.2.2.1 B.2.2.2.2.2.2.2.2.1 B.2.2.2.2.2.2.2.2.2.1 H U res dem q2.1 hig pri q2.2.1 q2.2.2.1 q2.2.2.2.1 q2.2.2.2.2 (-1) (fun j => P ((9 + (8 * j)) + 5)) (fun j => P ((9 + (8 * j)) + 6))) rfl
    generalize f_Search_findBest con cst B.2.1 B.2.2.1 B.2.2.2.1 B.2.2.2.2.1 B.2.2.2.2.2.1 B.2.2.2.2.2.2.1 B.2.2.2.2.2.2.2.1 B.2.2.2.2.2.2.2.2.1 B.2.2.2.2.2.2.2.2.2.1 H U res dem q2.1 hig pri q2.2.1 q2.2.2.1 q2.2.2.2.1 q2.2.2.2.2 (-1) (fun j => P ((9 + (8 * j)) + 5)) (fun j => P ((9 + (8 * j)) + 6)) = fb at hA hb hsw
    rw [lt_eq] at hA
    obtain ⟨o1, -⟩ := CO_of hb
    subst hA
    dsimp only
    refine ⟨?_, ?_, va_up P (9 + (8 * u)) (1 + k), k1, k2, k3, fun j hj => vu_ne hj⟩
    · rw [← o1, i1]
      show _ = (if decide (CO (va_up P (9 + (8 * u)) (1 + k)) = v) then orE _ 1 k ||| ((1 : Int32) <<< ((nI (1 + k)) &&& 31)) else orE _ 1 k)
      by_cases e : CO (va_up P (9 + (8 * u)) (1 + k)) = v
      · rw [if_pos e, if_pos (decide_eq_true e)]
      · rw [if_neg e, if_neg (fun z => e (of_decide_eq_true z))]
    · unfold swp at hsw
      unfold perm3 at i2 ⊢
      omega
theorem kc_ex (hP : nOK P) (hu : u < P 0) (hc : cD P H U res dem kin low hig pri sta ups dow onn) (hs : cS P ord flo sro sco) {k : Nat} (hk : k < 5) : ∃ kn, bestIs (-1000000) (va_up P (9 + (8 * u)) (1 + k)) kn := by
  obtain ⟨k1, k2, k3⟩ := put_kind (flo := flo) (sro := sro) (sco := sco) hP hu (show 1 ≤ 1 + k ∧ 1 + k ≤ 5 by omega) hc hs.2.1 rfl
  exact ⟨_, best_is (lost := -1000000) (wo := -1) (con := fun c => nI (onC c)) (cst := fun c => nI (stC c)) (cpa := fun _ => 0) (ssc := fun _ => 0) (ssz := fun _ => 0) (swt := fun _ => 0) (tof := fun _ _ => 0) (ton := fun _ _ => 0) (w3 := fun _ _ => 0) (pa := 0) (ps := 1) k1 (by decide) k2 k3 (fun _ _ => ⟨rfl, rfl⟩) (by decide) (Or.inl ⟨rfl, rfl⟩)⟩
theorem pc_L (hP : nOK P) (hu : u < P 0) (hc : cD P H U res dem kin low hig pri sta ups dow onn) (hs : cS P ord flo sro sco) (ht : tbl con cst) (hpm : perm3 pa pb ps) : ∀ k, k ≤ 9 → ∀ A, f_UH_pricesThatCost_L16 con cst H U res dem kin low hig sta (fun j => P ((9 + (8 * j)) + 5)) (fun j => P ((9 + (8 * j)) + 6)) u v 1 0 cpa sc sz wt tof ton w3 pa ps su ss sk pri ord flo sro sco k = A → A.1 = orE (fun d => decide (CO (va_up P ((9 + (8 * u)) + 3) d) = v)) 1 k ∧ perm3 A.2.2.2.2.2.2.2.2.1 pb A.2.2.2.2.2.2.2.2.2.1 ∧ ∃ Q : Nat → Nat, nOK Q ∧ cD Q H U res dem kin low hig A.2.2.2.2.2.2.2.2.2.2.2.2.2.1 sta ups dow onn ∧ cS Q A.2.2.2.2.2.2.2.2.2.2.2.2.2.2.1 A.2.2.2.2.2.2.2.2.2.2.2.2.2.2.2.1 A.2.2.2.2.2.2.2.2.2.2.2.2.2.2.2.2.1 A.2.2.2.2.2.2.2.2.2.2.2.2.2.2.2.2.2 ∧ ∀ j, j ≠ (9 + (8 * u)) + 3 → Q j = P j := by
  intro k
  induction k with
  | zero => intro _ A hA; subst hA; exact ⟨rfl, hpm, P, hP, hc, hs, fun _ _ => rfl⟩
  | succ k ih =>
    intro hk A hA
    rw [f_UH_pricesThatCost_L16] at hA
    generalize hB : f_UH_pricesThatCost_L16 con cst H U res dem kin low hig sta (fun j => P ((9 + (8 * j)) + 5)) (fun j => P ((9 + (8 * j)) + 6)) u v 1 0 cpa sc sz wt tof ton w3 pa ps su ss sk pri ord flo sro sco k = B at hA
    obtain ⟨i1, i2, Q, q1, q2', q3, q4⟩ := ih (by omega) B hB
    unfold f_UH_pricesThatCost_L16s at hA
    generalize hq2 : f_Day_putPrice U kin low hig B.2.2.2.2.2.2.2.2.2.2.2.2.2.1 sta B.2.2.2.2.2.2.2.2.2.2.2.2.2.2.1 B.2.2.2.2.2.2.2.2.2.2.2.2.2.2.2.1 B.2.2.2.2.2.2.2.2.2.2.2.2.2.2.2.2.1 B.2.2.2.2.2.2.2.2.2.2.2.2.2.2.2.2.2 u (nI (1 + k)) = q2 at hA
    rw [lt_eq] at hA
    have q0 : Q 0 = P 0 := q4 0 (by omega)
    obtain ⟨k1, k2, k3⟩ := put_price q1 (show u < Q 0 by rw [q0]; exact hu) (show 1 ≤ 1 + k ∧ 1 + k ≤ 9 by omega) q2' q3.2.1 hq2
    have eQ : va_up Q ((9 + (8 * u)) + 3) (1 + k) = va_up P ((9 + (8 * u)) + 3) (1 + k) := by
      funext j
      by_cases c : j = (9 + (8 * u)) + 3
      · rw [c, vu_self, vu_self]
      · rw [vu_ne c, vu_ne c, q4 j c]
    rw [eQ] at k1 k2 k3
    have hb := best_is (lost := -1000000) (wo := -1) (cpa := B.2.1) (ssc := B.2.2.1) (ssz := B.2.2.2.1) (swt := B.2.2.2.2.1) (tof := B.2.2.2.2.2.1) (ton := B.2.2.2.2.2.2.1) (w3 := B.2.2.2.2.2.2.2.1) (pa := B.2.2.2.2.2.2.2.2.1) (ps := B.2.2.2.2.2.2.2.2.2.1) k1 (by decide) k2 k3 ht i2.2.2.2.2.1 (Or.inl ⟨rfl, rfl⟩)
    have zu : (fun j => va_up P ((9 + (8 * u)) + 3) (1 + k) ((9 + (8 * j)) + 5)) = fun j => P ((9 + (8 * j)) + 5) := by
      funext j; rw [vu_ne (by omega)]
    have zd : (fun j => va_up P ((9 + (8 * u)) + 3) (1 + k) ((9 + (8 * j)) + 6)) = fun j => P ((9 + (8 * j)) + 6) := by
      funext j; rw [vu_ne (by omega)]
    rw [zu, zd] at hb
    have hsw := fb_sw (R := f_Search_findBest con cst B.2.1 B.2.2.1 B.2.2.2.1 B.2.2.2.2.1 B.2.2.2.2.2.1 B.2.2.2.2.2.2.1 B.2.2.2.2.2.2.2.1 B.2.2.2.2.2.2.2.2.1 B.2.2.2.2.2.2.2.2.2.1 H U res dem kin hig q2.1 q2.2.1 q2.2.2.1 q2.2.2.2.1 q2.2.2.2.2 (-1) (fun j => P ((9 + (8 * j)) + 5)) (fun j => P ((9 + (8 * j)) + 6))) rfl
    generalize f_Search_findBest con cst B.2.1 B.2.2.1 B.2.2.2.1 B.2.2.2.2.1 B.2.2.2.2.2.1 B.2.2.2.2.2.2.1 B.2.2.2.2.2.2.2.1 B.2.2.2.2.2.2.2.2.1 B.2.2.2.2.2.2.2.2.2.1 H U res dem kin hig q2.1 q2.2.1 q2.2.2.1 q2.2.2.2.1 q2.2.2.2.2 (-1) (fun j => P ((9 + (8 * j)) + 5)) (fun j => P ((9 + (8 * j)) + 6)) = fb at hA hb hsw
    rw [lt_eq] at hA
    obtain ⟨o1, -⟩ := CO_of hb
    subst hA
    dsimp only
    refine ⟨?_, ?_, va_up P ((9 + (8 * u)) + 3) (1 + k), k1, k2, k3, fun j hj => vu_ne hj⟩
    · rw [← o1, i1]
      show _ = (if decide (CO (va_up P ((9 + (8 * u)) + 3) (1 + k)) = v) then orE _ 1 k ||| ((1 : Int32) <<< ((nI (1 + k)) &&& 31)) else orE _ 1 k)
      by_cases e : CO (va_up P ((9 + (8 * u)) + 3) (1 + k)) = v
      · rw [if_pos e, if_pos (decide_eq_true e)]
      · rw [if_neg e, if_neg (fun z => e (of_decide_eq_true z))]
    · unfold swp at hsw
      unfold perm3 at i2 ⊢
      omega
theorem pc_ex (hP : nOK P) (hu : u < P 0) (hc : cD P H U res dem kin low hig pri sta ups dow onn) (hs : cS P ord flo sro sco) {k : Nat} (hk : k < 9) : ∃ kn, bestIs (-1000000) (va_up P ((9 + (8 * u)) + 3) (1 + k)) kn := by
  obtain ⟨k1, k2, k3⟩ := put_price (flo := flo) (sro := sro) (sco := sco) hP hu (show 1 ≤ 1 + k ∧ 1 + k ≤ 9 by omega) hc hs.2.1 rfl
  exact ⟨_, best_is (lost := -1000000) (wo := -1) (con := fun c => nI (onC c)) (cst := fun c => nI (stC c)) (cpa := fun _ => 0) (ssc := fun _ => 0) (ssz := fun _ => 0) (swt := fun _ => 0) (tof := fun _ _ => 0) (ton := fun _ _ => 0) (w3 := fun _ _ => 0) (pa := 0) (ps := 1) k1 (by decide) k2 k3 (fun _ _ => ⟨rfl, rfl⟩) (by decide) (Or.inl ⟨rfl, rfl⟩)⟩
end KC
