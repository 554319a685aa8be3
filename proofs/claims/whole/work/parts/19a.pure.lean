theorem siz0_m : ∀ r, r < 8 → siz0 r = -1 := by decide +kernel
theorem nOK0 : nOK (fun _ => 0) := ⟨Nat.zero_le _, Nat.zero_le _, Iff.rfl, Nat.zero_le _, fun _ hh => absurd hh (Nat.not_lt_zero _), fun _ hu => absurd hu (Nat.not_lt_zero _)⟩
theorem cD0 {dem kin low hig pri sta ups dow onn : Nat → Int32} : cD (fun _ => 0) 0 0 0 dem kin low hig pri sta ups dow onn := ⟨rfl, rfl, rfl, fun _ hh => absurd hh (Nat.not_lt_zero _), fun _ hu => absurd hu (Nat.not_lt_zero _)⟩
theorem cS0 {flo sro sco : Nat → Int32} : cS (fun _ => 0) (fun _ => 0) flo sro sco := ⟨rfl, fun _ _ => (by decide : 0 < 4), fun _ hu => absurd hu (Nat.not_lt_zero _)⟩
theorem dZ_S {h : mHp} {a : Nat} (v : isV h a (dayZ a)) : dS h a (fun _ => 0) := ⟨0, 0, 0, _, _, _, _, _, _, _, _, _, fun _ => 0, _, _, _, v, nOK0, cD0, cS0⟩
theorem dZ_T {h : mHp} {a : Nat} (v : isV h a (dayZ a)) : dT h a := ⟨0, 0, 0, _, _, _, _, _, _, _, _, _, fun _ => 0, _, _, _, v, by decide, by decide, fun _ _ => (by decide : 0 < 4)⟩
theorem up9 {h : mHp} {x e : Nat} {K : List mC} (h1 : x + 1 ≤ e) (h2 : e + K.length ≤ x + 298) (q : isV (uA6 h x) e K) : isV (uhZ h x) e K := by
  show isV (ov (ov (ov (ov (uA6 h x) (x + 298) _) (x + 319) _) (x + 323) _) x _) e K
  exact isV_ov (Or.inr h1) (isV_ov (Or.inl (by omega)) (isV_ov (Or.inl (by omega)) (isV_ov (Or.inl h2) q)))
theorem up5 {h : mHp} {x e : Nat} {K : List mC} (h1 : x + 1 ≤ e) (h2 : e + K.length ≤ x + 72) (q : isV (uA5 h x) e K) : isV (uhZ h x) e K := up9 h1 (by omega) (acZ_out (Or.inl h2) q)
theorem startCI {h : mHp} {x : Nat} : CI (uhZ h x) x 0 0 0 0 (fun _ _ => 0) (fun _ => 0) siz0 (fun _ => 0) 0 (fun _ => 0) (fun _ _ => 0) 0 0 (fun _ _ => 0) (fun _ => 0) 0 := by
  refine ⟨ov_isV, up5 (show x + 1 ≤ x + 1 by omega) (show x + 1 + 12 ≤ x + 72 by omega) (isV_ov (Or.inl (show x + 1 + 12 ≤ x + 43 by omega)) (isV_ov (Or.inl (show x + 1 + 12 ≤ x + 58 by omega)) (isV_ov (Or.inl (show x + 1 + 12 ≤ x + 44 by omega)) (isV_ov (Or.inl (show x + 1 + 12 ≤ x + 29 by omega)) (isV_ov (Or.inl (show x + 1 + 12 ≤ x + 15 by omega)) (isV_ov (Or.inl (show x + 1 + 12 ≤ x + 13 by omega)) (ov_isV))))))), ⟨0, 0, up5 (show x + 1 ≤ x + 13 by omega) (show x + 13 + 2 ≤ x + 72 by omega) (isV_ov (Or.inl (show x + 13 + 2 ≤ x + 43 by omega)) (isV_ov (Or.inl (show x + 13 + 2 ≤ x + 58 by omega)) (isV_ov (Or.inl (show x + 13 + 2 ≤ x + 44 by omega)) (isV_ov (Or.inl (show x + 13 + 2 ≤ x + 29 by omega)) (isV_ov (Or.inl (show x + 13 + 2 ≤ x + 15 by omega)) (ov_isV))))))⟩, dZ_S (up5 (show x + 1 ≤ x + 15 by omega) (show x + 15 + 14 ≤ x + 72 by omega) (isV_ov (Or.inl (show x + 15 + 14 ≤ x + 43 by omega)) (isV_ov (Or.inl (show x + 15 + 14 ≤ x + 58 by omega)) (isV_ov (Or.inl (show x + 15 + 14 ≤ x + 44 by omega)) (isV_ov (Or.inl (show x + 15 + 14 ≤ x + 29 by omega)) (ov_isV)))))), dZ_T (up5 (show x + 1 ≤ x + 29 by omega) (show x + 29 + 14 ≤ x + 72 by omega) (isV_ov (Or.inl (show x + 29 + 14 ≤ x + 43 by omega)) (isV_ov (Or.inl (show x + 29 + 14 ≤ x + 58 by omega)) (isV_ov (Or.inl (show x + 29 + 14 ≤ x + 44 by omega)) (ov_isV))))), up5 (show x + 1 ≤ x + 43 by omega) (show x + 43 + 1 ≤ x + 72 by omega) (ov_isV), fun k hk => ?_, ?_, fun k hk => ?_, ?_, ?_, ?_⟩
  · rcases (show k = 0 ∨ k = 1 by omega) with e | e
    · subst e
      exact dZ_S (up5 (show x + 1 ≤ x + 44 by omega) (show x + 44 + 14 ≤ x + 72 by omega) (isV_ov (Or.inr (show x + 43 + 1 ≤ x + 44 by omega)) (isV_ov (Or.inl (show x + 44 + 14 ≤ x + 58 by omega)) (ov_isV))))
    · subst e
      exact dZ_S (up5 (show x + 1 ≤ x + 58 by omega) (show x + 58 + 14 ≤ x + 72 by omega) (isV_ov (Or.inr (show x + 43 + 1 ≤ x + 58 by omega)) (ov_isV)))
  · exact up9 (show x + 1 ≤ x + 72 by omega) (show x + 72 + 2 ≤ x + 298 by omega) ov_isV
  · exact dZ_S (up9 (show x + 1 ≤ x + 72 + (2 + 14 * k) by omega) (show x + 72 + (2 + 14 * k) + 14 ≤ x + 298 by omega) (acZ_day hk))
  · refine ⟨lyA dOn 81, lyA dSt 81, fun _ => 0, fun _ => 0, fun _ => 0, fun _ => 0, fun _ => 0, fun _ _ => 0, fun _ _ => 0, fun _ _ => 0, 0, 1, 2, 0, 0, 0, ?_, lyA_tbl, by unfold perm3; decide⟩
    show isV (ov (ov (ov (ov (uA6 h x) (x + 298) (seZ (x + 298) (lyA dOn 81) (lyA dSt 81))) (x + 319) _) (x + 323) _) x _) (x + 298) _
    exact isV_ov (Or.inr (show x + 1 ≤ x + 298 by omega)) (isV_ov (Or.inl (show x + 298 + 21 ≤ x + 323 by omega)) (isV_ov (Or.inl (show x + 298 + 21 ≤ x + 319 by omega)) ov_isV))
  · refine ⟨fun _ => 0, fun _ => 0, fun _ => 0, 0, 0, ?_⟩
    show isV (ov (ov (ov (uA7 h x) (x + 319) (lonL (x + 319) (fun _ => 0) (fun _ => 0) (fun _ => 0) 0 0)) (x + 323) _) x _) (x + 319) _
    exact isV_ov (Or.inr (show x + 1 ≤ x + 319 by omega)) (isV_ov (Or.inl (show x + 319 + 4 ≤ x + 323 by omega)) ov_isV)
  · refine ⟨0, 0, 0, 0, ?_⟩
    show isV (ov (ov (uA8 h x) (x + 323) (askL (x + 323) (fun _ => 0) 0 0 0 0 0)) x _) (x + 323) _
    exact isV_ov (Or.inr (show x + 1 ≤ x + 323 by omega)) ov_isV
def modZ (b : Nat) : List mC := modL b (lnF 8) (fun _ => 0) (fun _ => 0) (fun _ => 0) 0 (fun _ => 0) 0 0 0 0 0 0 0 (fun _ _ => 0) (fun _ => 0) 0 (fun _ => 0) (fun _ => 0) (fun _ => 0) (fun _ => 0) (fun _ => 0) (fun _ => 0) 0 0 0 (fun _ => 0) (fun _ => 0) (fun _ => 0) 0
theorem startINV {h : mHp} {x b : Nat} (hb : x + 325 ≤ b) : INV (ov (uhZ h x) b (modZ b)) x b := by
  refine ⟨hb, 0, 0, 0, 0, fun _ _ => 0, fun _ => 0, siz0, fun _ => 0, 0, fun _ => 0, fun _ _ => 0, 0, 0, fun _ _ => 0, fun _ => 0, 0, lnF 8, fun _ => 0, fun _ => 0, fun _ => 0, 0, 0, 0, 0, 0, fun _ _ => 0, fun _ => 0, fun _ => 0, fun _ => 0, fun _ => 0, fun _ => 0, fun _ => 0, fun _ => 0, 0, 0, 0, fun _ => 0, fun _ => 0, fun _ => 0, CI_m hb startCI, ov_isV, ?_⟩
  exact ⟨fun r hr => ⟨Nat.zero_le _, Or.inl ⟨siz0_m r hr, lnF_8 hr⟩⟩, ⟨Nat.zero_le _, fun i hi => absurd hi (Nat.not_lt_zero _)⟩, fun k hk => rfl, fun k hk => Or.inl ⟨rfl, rfl⟩, ⟨by decide, Nat.zero_le _, fun i hi => absurd hi (Nat.not_lt_zero _)⟩, ⟨Nat.zero_le _, fun i hi => absurd hi (Nat.not_lt_zero _)⟩, Or.inl rfl⟩
