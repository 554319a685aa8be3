section WHO
variable {P : Nat → Nat} {W : Nat → Nat → Int32} {con cst : Nat → Int32} {cpa car : Nat → Int64} {sc sz wt : Nat → Nat} {tof ton : Nat → Nat → Int32} {w3 : Nat → Nat → Int64} {pa pb ps su ss sk : Nat} {H U : Nat} {res : Int32} {dem kin low hig pri sta ups dow onn : Nat → Int32} {ord : Nat → Nat} {flo sro sco : Nat → Int32} {H2 U2 : Nat} {res2 : Int32} {dem2 kin2 low2 hig2 pri2 sta2 ups2 dow2 onn2 : Nat → Int32} {ord2 : Nat → Nat} {flo2 sro2 sco2 : Nat → Int32}
theorem aroundCO {n : Nat} {R : (Nat → Int64) × (Nat → Int64) × (Nat → Nat) × (Nat → Nat) × (Nat → Nat) × (Nat → Nat → Int32) × (Nat → Nat → Int32) × (Nat → Nat → Int64) × Nat × Nat × Nat × Nat × Nat × Nat} (hP : nOK P) (hc : cD P H U res dem kin low hig pri sta ups dow onn) (hs : cS P ord flo sro sco) (ht : tbl con cst) (hpm : perm3 pa pb ps) (hn : n < P 1) (hR : f_Search_lookAround con cst cpa car sc sz wt tof ton w3 pa pb ps H U res dem kin hig pri ord flo sro sco n (fun j => P ((9 + (8 * j)) + 5)) (fun j => P ((9 + (8 * j)) + 6)) = R) : perm3 R.2.2.2.2.2.2.2.2.1 R.2.2.2.2.2.2.2.2.2.1 R.2.2.2.2.2.2.2.2.2.2.1 ∧ (∀ d, d ≤ 60 → f_Search_costAround con cst R.2.1 R.2.2.2.2.2.2.2.2.2.2.2.2.2 U res hig pri ord flo sro sco (nI d) = CO (va_up P (3 + n) d)) ∧ ∀ d, d ≤ 60 → ∀ (W : Nat → Nat → Int32) (wi : Nat) (gvn costs lst sets : Nat → Int32), mD (W wi) (va_up P (3 + n) d) → (f_Model_bestCost W gvn costs lst sets (-1000000) wi (P 0) (P 1)).1 = CO (va_up P (3 + n) d) := by
  obtain ⟨a1, a2⟩ := around_is hP hc hs ht hpm hn hR
  have key : ∀ d, d ≤ 60 → f_Search_costAround con cst R.2.1 R.2.2.2.2.2.2.2.2.2.2.2.2.2 U res hig pri ord flo sro sco (nI d) = CO (va_up P (3 + n) d) := fun d hd => by
    have k := a2 d hd (fun _ k => nI (va_up P (3 + n) d k)) 0 zI zI zI zI (fun _ _ => rfl)
    unfold CO
    rw [vu_ne (show (0 : Nat) ≠ 3 + n by omega), vu_ne (show (1 : Nat) ≠ 3 + n by omega)]
    exact k.symm
  exact ⟨a1, key, fun d hd W wi gvn costs lst sets hmm => (a2 d hd W wi gvn costs lst sets hmm).trans (key d hd)⟩
theorem who_R {wh xx v : Int32} {gvn costs lst sets : Nat → Int32} {bst : Int32} {R : Int32 × (Nat → Int64) × (Nat → Int64) × (Nat → Nat) × (Nat → Nat) × (Nat → Nat) × (Nat → Nat → Int32) × (Nat → Nat → Int32) × (Nat → Nat → Int64) × Nat × Nat × Nat × Nat × Nat × Nat × Nat × Nat × Int32 × (Nat → Int32) × (Nat → Int32) × (Nat → Int32) × (Nat → Int32) × (Nat → Int32) × (Nat → Int32) × (Nat → Int32) × (Nat → Int32) × (Nat → Int32) × (Nat → Nat) × (Nat → Int32) × (Nat → Int32) × (Nat → Int32)} {M : Int32 × (Nat → Nat → Int32) × (Nat → Int32) × (Nat → Int32) × (Nat → Int32) × (Nat → Int32) × Int32} (hP : nOK P) (hc : cD P H U res dem kin low hig pri sta ups dow onn) (hs : cS P ord flo sro sco) (hm : mD (W 0) P) (ht : tbl con cst) (hpm : perm3 pa pb ps) (hH2 : H2 ≤ 6) (hU2 : U2 ≤ 4) (hO2 : ∀ j, j < 4 → ord2 j < 4) (hR : f_UH_who H U res dem kin low hig pri sta ups dow onn ord flo sro sco con cst cpa car sc sz wt tof ton w3 pa pb ps su ss sk H2 U2 res2 dem2 kin2 low2 hig2 pri2 sta2 ups2 dow2 onn2 ord2 flo2 sro2 sco2 wh xx v (fun j => P ((9 + (8 * j)) + 5)) (fun j => P ((9 + (8 * j)) + 6)) = R) (hM : f_Model_who W gvn costs lst sets bst wh xx v U H = M) : R.1 = M.1 ∧ perm3 R.2.2.2.2.2.2.2.2.2.1 R.2.2.2.2.2.2.2.2.2.2.1 R.2.2.2.2.2.2.2.2.2.2.2.1 ∧ (R.2.2.2.2.2.2.2.2.2.2.2.2.2.2.2.1 ≤ 6 ∧ R.2.2.2.2.2.2.2.2.2.2.2.2.2.2.2.2.1 ≤ 4 ∧ ∀ j, j < 4 → R.2.2.2.2.2.2.2.2.2.2.2.2.2.2.2.2.2.2.2.2.2.2.2.2.2.2.2.1 j < 4) ∧ M.2.1 0 = W 0 := by
  have hdc := dayC hP hm hc
  have eH : H = P 1 := hc.1
  have eU : U = P 0 := hc.2.1
  have hH : H ≤ 6 := by rw [eH]; exact hP.2.1
  have hU : U ≤ 4 := by rw [eU]; exact hP.1
  have hcop : ∀ n5 : Nat, ∀ j, j < 41 → j ≠ n5 → (va_up W 2 (f_copies (W 0) (W 2) 0 0) 2) j = nI (P j) := fun n5 j hj _ => by rw [vu_self, copies0 hj]; exact hm j hj
  unfold f_UH_who at hR
  unfold f_Model_who at hM
  rcases hdc with ⟨g1, g2, -⟩ | ⟨g1, g2, -⟩
  · rw [g1, iteF (show ¬ (1 : Int32) = 0 by decide)] at hR
    rw [g2, iteT (show (0 : Int32) = 0 from rfl)] at hM
    subst hR hM
    exact ⟨rfl, hpm, ⟨hH2, hU2, hO2⟩, rfl⟩
  rw [g1, iteT (show (0 : Int32) = 0 from rfl)] at hR
  rw [g2, iteF (show ¬ (1 : Int32) = 0 by decide)] at hM
  have hwi : (wh < 0 ∧ f_Model_in wh 0 3 = 0) ∨ (¬ wh < 0 ∧ 3 < wh ∧ f_Model_in wh 0 3 = 0) ∨ (¬ wh < 0 ∧ ¬ 3 < wh ∧ f_Model_in wh 0 3 = 1) := by
    unfold f_Model_in
    by_cases a : wh < 0
    · exact Or.inl ⟨a, if_pos a⟩
    · by_cases b : 3 < wh
      · exact Or.inr (Or.inl ⟨a, b, by rw [if_neg a, if_pos b]⟩)
      · exact Or.inr (Or.inr ⟨a, b, by rw [if_neg a, if_neg b]⟩)
  rcases hwi with ⟨y1, y2⟩ | ⟨y1, y2, y3⟩ | ⟨y1, y2, y3⟩
  · rw [if_pos y1] at hR
    rw [y2, iteT (show (0 : Int32) = 0 from rfl), iteT (show (0 : Int32) = 0 from rfl)] at hM
    subst hR hM
    exact ⟨rfl, hpm, ⟨hH2, hU2, hO2⟩, rfl⟩
  · rw [if_neg y1, if_pos y2] at hR
    rw [y3, iteT (show (0 : Int32) = 0 from rfl), iteT (show (0 : Int32) = 0 from rfl)] at hM
    subst hR hM
    exact ⟨rfl, hpm, ⟨hH2, hU2, hO2⟩, rfl⟩
  rw [if_neg y1, if_neg y2] at hR
  rw [y3, iteF (show ¬ (1 : Int32) = 0 by decide)] at hM
  by_cases z1 : v < 0
  · rw [if_pos z1] at hR
    have e : f_Model_in v 0 99999 = 0 := by unfold f_Model_in; rw [if_pos z1]
    rw [e, iteT (show (0 : Int32) = 0 from rfl) (b := _), ite_self] at hM
    subst hR hM
    exact ⟨rfl, hpm, ⟨hH2, hU2, hO2⟩, rfl⟩
  by_cases z2 : 99999 < v
  · rw [if_neg z1, if_pos z2] at hR
    have e : f_Model_in v 0 99999 = 0 := by unfold f_Model_in; rw [if_neg z1, if_pos z2]
    rw [e, iteT (show (0 : Int32) = 0 from rfl) (b := _), ite_self] at hM
    subst hR hM
    exact ⟨rfl, hpm, ⟨hH2, hU2, hO2⟩, rfl⟩
  rw [if_neg z1, if_neg z2] at hR
  have e : f_Model_in v 0 99999 = 1 := by unfold f_Model_in; rw [if_neg z1, if_neg z2]
  rw [e] at hM
  obtain ⟨w, hw, rfl⟩ := leN (N := 3) (by omega) y1 y2
  have hw4 : w = 0 ∨ w = 1 ∨ w = 2 ∨ w = 3 := by omega
  rcases hw4 with z | z | z | z <;> subst z
  · rw [iteT (show nI 0 < (2 : Int32) by decide)] at hR
    rw [iteT (show nI 0 < (2 : Int32) by decide)] at hM
    rcases hourC (u := xx) hH with ⟨k, hk, rfl, t1, t2⟩ | ⟨t1, t2⟩
    · rw [t1, iteT (show (0 : Int32) = 0 from rfl), nI_clamp (by omega)] at hR
      rw [t2, iteF (show ¬ (1 : Int32) = 0 by decide), iteF (show ¬ (1 : Int32) = 0 by decide), iteF (show ¬ (1 : Int32) = 0 by decide), nI_clamp (by omega)] at hM
      rw [iteT (show nI 0 = (0 : Int32) from rfl)] at hR
      unfold f_UH_countDemands at hR
      generalize hq1 : f_Search_lookAround con cst cpa car sc sz wt tof ton w3 pa pb ps H U res dem kin hig pri ord flo sro sco k (fun j => P ((9 + (8 * j)) + 5)) (fun j => P ((9 + (8 * j)) + 6)) = q1 at hR
      obtain ⟨a1, a2, a3⟩ := aroundCO hP hc hs ht hpm (show k < P 1 by omega) hq1
      have x2 : (if nI 0 < (2 : Int32) then 3 + k else (if nI 0 = (2 : Int32) then 9 + (8 * k) else (9 + (8 * k)) + 3)) = 3 + k := if_pos (by decide)
      have x3 : (if nI 0 < (2 : Int32) then (60 : Int32) else if nI 0 = (2 : Int32) then (5 : Int32) else (9 : Int32)) = nI (0 + 61) + (-1) := by decide
      rw [x2, x3] at hM
      generalize hL : f_Model_who_L152 U H (nI 0) v (3 + k) 62 0 0 (-1000000) (nI (0 + 61) + (-1)) (va_up W 2 (f_copies (W 0) (W 2) 0 0)) gvn costs lst sets bst = L at hM
      obtain ⟨l1, l2, l3, l4⟩ := whoM (P := P) (lo := 0) (n5 := 3 + k) (N := 61) (Or.inl rfl) (by decide) (Nat.le_refl _) (by omega) (fun d hd W wi g c l s hmm => by rw [Nat.zero_add] at hmm ⊢; rw [eU, eH]; exact a3 d (by omega) W wi g c l s hmm) 61 (Nat.le_refl _) 62 (by omega) 0 0 (-1000000) _ gvn costs lst sets bst (hcop (3 + k)) L hL
      rw [lt_eq] at hM
      rw [lt_eq, lt_eq, lt_eq, cd_L a2 61 (Nat.le_refl _)] at hR
      subst hR hM
      refine ⟨?_, a1, ⟨hH2, hU2, hO2⟩, by dsimp only; rw [l4 0 (by decide), vu_ne (by decide)]⟩
      dsimp only
      rw [iteT (show nI 0 = (0 : Int32) from rfl), l2, Int32.zero_add]
    · rw [t1, iteF (show ¬ (1 : Int32) = 0 by decide)] at hR
      rw [t2, iteT (show (0 : Int32) = 0 from rfl), iteT (show (0 : Int32) = 0 from rfl)] at hM
      subst hR hM
      exact ⟨rfl, hpm, ⟨hH2, hU2, hO2⟩, rfl⟩
  · rw [iteT (show nI 1 < (2 : Int32) by decide)] at hR
    rw [iteT (show nI 1 < (2 : Int32) by decide)] at hM
    rcases hourC (u := xx) hH with ⟨k, hk, rfl, t1, t2⟩ | ⟨t1, t2⟩
    · rw [t1, iteT (show (0 : Int32) = 0 from rfl), nI_clamp (by omega)] at hR
      rw [t2, iteF (show ¬ (1 : Int32) = 0 by decide), iteF (show ¬ (1 : Int32) = 0 by decide), iteF (show ¬ (1 : Int32) = 0 by decide), nI_clamp (by omega)] at hM
      rw [iteF (show ¬ nI 1 = (0 : Int32) by decide), iteT (show nI 1 = (1 : Int32) from rfl)] at hR
      unfold f_UH_leastDemand at hR
      generalize hq1 : f_Search_lookAround con cst cpa car sc sz wt tof ton w3 pa pb ps H U res dem kin hig pri ord flo sro sco k (fun j => P ((9 + (8 * j)) + 5)) (fun j => P ((9 + (8 * j)) + 6)) = q1 at hR
      obtain ⟨a1, a2, a3⟩ := aroundCO hP hc hs ht hpm (show k < P 1 by omega) hq1
      have x2 : (if nI 1 < (2 : Int32) then 3 + k else (if nI 1 = (2 : Int32) then 9 + (8 * k) else (9 + (8 * k)) + 3)) = 3 + k := if_pos (by decide)
      have x3 : (if nI 1 < (2 : Int32) then (60 : Int32) else if nI 1 = (2 : Int32) then (5 : Int32) else (9 : Int32)) = nI (0 + 61) + (-1) := by decide
      rw [x2, x3] at hM
      generalize hL : f_Model_who_L152 U H (nI 1) v (3 + k) 62 0 0 (-1000000) (nI (0 + 61) + (-1)) (va_up W 2 (f_copies (W 0) (W 2) 0 0)) gvn costs lst sets bst = L at hM
      obtain ⟨l1, l2, l3, l4⟩ := whoM (P := P) (lo := 0) (n5 := 3 + k) (N := 61) (Or.inl rfl) (by decide) (Nat.le_refl _) (by omega) (fun d hd W wi g c l s hmm => by rw [Nat.zero_add] at hmm ⊢; rw [eU, eH]; exact a3 d (by omega) W wi g c l s hmm) 61 (Nat.le_refl _) 62 (by omega) 0 0 (-1000000) _ gvn costs lst sets bst (hcop (3 + k)) L hL
      rw [lt_eq] at hM
      rw [lt_eq, lt_eq] at hR
      rcases ld_L (x3 := v) (cpa := q1.1) (sc := q1.2.2.1) (sz := q1.2.2.2.1) (wt := q1.2.2.2.2.1) (tof := q1.2.2.2.2.2.1) (ton := q1.2.2.2.2.2.2.1) (w3 := q1.2.2.2.2.2.2.2.1) (pa := q1.2.2.2.2.2.2.2.2.1) (pb := q1.2.2.2.2.2.2.2.2.2.1) (ps := q1.2.2.2.2.2.2.2.2.2.2.1) (su := q1.2.2.2.2.2.2.2.2.2.2.2.1) (ss := q1.2.2.2.2.2.2.2.2.2.2.2.2.1) a2 62 0 rfl (fun d hd => absurd hd (Nat.not_lt_zero _)) with ⟨d, d1, d2, d3, d4⟩ | ⟨d1, y, d2⟩
      · rw [d4] at hR
        subst hR hM
        refine ⟨?_, a1, ⟨hH2, hU2, hO2⟩, by dsimp only; rw [l4 0 (by decide), vu_ne (by decide)]⟩
        dsimp only
        rw [iteF (show ¬ nI 1 = (0 : Int32) by decide), iteT (show nI 1 = (1 : Int32) from rfl)]
        rcases l3 with ⟨c, c1, c2, c3, c4⟩ | ⟨c1, -⟩
        · rw [c4, Nat.zero_add]
          rw [Nat.zero_add] at c2
          have : d = c := by
            rcases Nat.lt_trichotomy d c with q | q | q
            · have := c3 d q; rw [Nat.zero_add] at this; exact absurd d2 this
            · exact q
            · exact absurd c2 (d3 c q)
          rw [this]
        · have := c1 d (by omega); rw [Nat.zero_add] at this; exact absurd d2 this
      · rw [d2] at hR
        subst hR hM
        refine ⟨?_, a1, ⟨hH2, hU2, hO2⟩, by dsimp only; rw [l4 0 (by decide), vu_ne (by decide)]⟩
        dsimp only
        rw [iteF (show ¬ nI 1 = (0 : Int32) by decide), iteT (show nI 1 = (1 : Int32) from rfl)]
        rcases l3 with ⟨c, c1, c2, c3, c4⟩ | ⟨-, c2⟩
        · rw [Nat.zero_add] at c2; exact absurd c2 (d1 c (by omega))
        · rw [c2]
    · rw [t1, iteF (show ¬ (1 : Int32) = 0 by decide)] at hR
      rw [t2, iteT (show (0 : Int32) = 0 from rfl), iteT (show (0 : Int32) = 0 from rfl)] at hM
      subst hR hM
      exact ⟨rfl, hpm, ⟨hH2, hU2, hO2⟩, rfl⟩
  · rw [iteF (show ¬ nI 2 < (2 : Int32) by decide)] at hR
    rw [iteF (show ¬ nI 2 < (2 : Int32) by decide)] at hM
    rcases unitC (u := xx) hU with ⟨k, hk, rfl, t1, t2⟩ | ⟨t1, t2⟩
    · rw [t1, iteT (show (0 : Int32) = 0 from rfl), nI_clamp (by omega)] at hR
      rw [t2, iteF (show ¬ (1 : Int32) = 0 by decide), iteF (show ¬ (1 : Int32) = 0 by decide), iteF (show ¬ (1 : Int32) = 0 by decide), nI_clamp (by omega)] at hM
      rw [iteF (show ¬ nI 2 = (0 : Int32) by decide), iteF (show ¬ nI 2 = (1 : Int32) by decide), iteT (show nI 2 = (2 : Int32) from rfl)] at hR
      unfold f_UH_kindsThatCost at hR
      have kl := cD_like (R := f_Day_becomeLike dem2 kin2 low2 hig2 pri2 sta2 ups2 dow2 onn2 ord2 flo2 sro2 sco2 H U res dem kin low hig pri sta ups dow onn) hP hc hO2 rfl
      generalize f_Day_becomeLike dem2 kin2 low2 hig2 pri2 sta2 ups2 dow2 onn2 ord2 flo2 sro2 sco2 H U res dem kin low hig pri sta ups dow onn = B at hR kl
      obtain ⟨k1, k2⟩ := kl
      rw [lt_eq, lt_eq] at hR
      generalize hA : f_UH_kindsThatCost_L16 con cst B.1 B.2.1 B.2.2.1 B.2.2.2.1 B.2.2.2.2.2.1 B.2.2.2.2.2.2.1 B.2.2.2.2.2.2.2.1 B.2.2.2.2.2.2.2.2.1 (fun j => P ((9 + (8 * j)) + 5)) (fun j => P ((9 + (8 * j)) + 6)) k v 1 (0 : Int32) cpa sc sz wt tof ton w3 pa ps su ss sk B.2.2.2.2.1 B.2.2.2.2.2.2.2.2.2.2.2.2.1 B.2.2.2.2.2.2.2.2.2.2.2.2.2.1 B.2.2.2.2.2.2.2.2.2.2.2.2.2.2.1 B.2.2.2.2.2.2.2.2.2.2.2.2.2.2.2 ((5 + 1) - 1) = A at hR
      obtain ⟨a1, a2, Q, a3, a4, a5, a6⟩ := kc_L (P := P) (u := k) (v := v) (cpa := cpa) (sc := sc) (sz := sz) (wt := wt) (tof := tof) (ton := ton) (w3 := w3) (su := su) (ss := ss) (sk := sk) hP (show k < P 0 by omega) k1 k2 ht hpm 5 (Nat.le_refl _) A hA
      have x2 : (if nI 2 < (2 : Int32) then 3 + k else (if nI 2 = (2 : Int32) then 9 + (8 * k) else (9 + (8 * k)) + 3)) = 9 + (8 * k) := rfl
      have x3 : (if nI 2 < (2 : Int32) then (60 : Int32) else if nI 2 = (2 : Int32) then (5 : Int32) else (9 : Int32)) = nI (1 + 5) + (-1) := by decide
      rw [x2, x3] at hM
      generalize hL : f_Model_who_L152 U H (nI 2) v (9 + (8 * k)) 62 0 0 (-1000000) (nI (1 + 5) + (-1)) (va_up W 2 (f_copies (W 0) (W 2) 0 0)) gvn costs lst sets bst = L at hM
      obtain ⟨l1, l2, l3, l4⟩ := whoM (P := P) (lo := 1) (n5 := 9 + (8 * k)) (N := 5) (Or.inr rfl) (by decide) (by omega) (by omega) (fun d hd W wi g c l s hmm => by
        obtain ⟨kn, hkn⟩ := kc_ex hP (show k < P 0 by omega) hc hs hd
        have := (CO_of hkn).2 W wi g c l s hmm
        rw [vu_ne (show (0 : Nat) ≠ 9 + (8 * k) by omega), vu_ne (show (1 : Nat) ≠ 9 + (8 * k) by omega)] at this
        rw [eU, eH]
        exact this) 5 (Nat.le_refl _) 62 (by omega) 0 0 (-1000000) _ gvn costs lst sets bst (hcop (9 + (8 * k))) L hL
      rw [lt_eq] at hM
      rw [lt_eq] at hR
      subst hR hM
      refine ⟨?_, a2, ⟨by dsimp only; rw [k1.1]; exact hP.2.1, by dsimp only; rw [k1.2.1]; exact hP.1, a5.2.1⟩, by dsimp only; rw [l4 0 (by decide), vu_ne (by decide)]⟩
      dsimp only
      rw [iteF (show ¬ nI 2 = (0 : Int32) by decide), iteF (show ¬ nI 2 = (1 : Int32) by decide), l1, iteT (show (1 : Int32) < nI 2 by decide), Int32.zero_or, a1]
    · rw [t1, iteF (show ¬ (1 : Int32) = 0 by decide)] at hR
      rw [t2, iteT (show (0 : Int32) = 0 from rfl), iteT (show (0 : Int32) = 0 from rfl)] at hM
      subst hR hM
      exact ⟨rfl, hpm, ⟨hH2, hU2, hO2⟩, rfl⟩
  · rw [iteF (show ¬ nI 3 < (2 : Int32) by decide)] at hR
    rw [iteF (show ¬ nI 3 < (2 : Int32) by decide)] at hM
    rcases unitC (u := xx) hU with ⟨k, hk, rfl, t1, t2⟩ | ⟨t1, t2⟩
    · rw [t1, iteT (show (0 : Int32) = 0 from rfl), nI_clamp (by omega)] at hR
      rw [t2, iteF (show ¬ (1 : Int32) = 0 by decide), iteF (show ¬ (1 : Int32) = 0 by decide), iteF (show ¬ (1 : Int32) = 0 by decide), nI_clamp (by omega)] at hM
      rw [iteF (show ¬ nI 3 = (0 : Int32) by decide), iteF (show ¬ nI 3 = (1 : Int32) by decide), iteF (show ¬ nI 3 = (2 : Int32) by decide)] at hR
      unfold f_UH_pricesThatCost at hR
      have kl := cD_like (R := f_Day_becomeLike dem2 kin2 low2 hig2 pri2 sta2 ups2 dow2 onn2 ord2 flo2 sro2 sco2 H U res dem kin low hig pri sta ups dow onn) hP hc hO2 rfl
      generalize f_Day_becomeLike dem2 kin2 low2 hig2 pri2 sta2 ups2 dow2 onn2 ord2 flo2 sro2 sco2 H U res dem kin low hig pri sta ups dow onn = B at hR kl
      obtain ⟨k1, k2⟩ := kl
      rw [lt_eq, lt_eq] at hR
      generalize hA : f_UH_pricesThatCost_L16 con cst B.1 B.2.1 B.2.2.1 B.2.2.2.1 B.2.2.2.2.1 B.2.2.2.2.2.1 B.2.2.2.2.2.2.1 B.2.2.2.2.2.2.2.2.1 (fun j => P ((9 + (8 * j)) + 5)) (fun j => P ((9 + (8 * j)) + 6)) k v 1 (0 : Int32) cpa sc sz wt tof ton w3 pa ps su ss sk B.2.2.2.2.2.2.2.1 B.2.2.2.2.2.2.2.2.2.2.2.2.1 B.2.2.2.2.2.2.2.2.2.2.2.2.2.1 B.2.2.2.2.2.2.2.2.2.2.2.2.2.2.1 B.2.2.2.2.2.2.2.2.2.2.2.2.2.2.2 ((9 + 1) - 1) = A at hR
      obtain ⟨a1, a2, Q, a3, a4, a5, a6⟩ := pc_L (P := P) (u := k) (v := v) (cpa := cpa) (sc := sc) (sz := sz) (wt := wt) (tof := tof) (ton := ton) (w3 := w3) (su := su) (ss := ss) (sk := sk) hP (show k < P 0 by omega) k1 k2 ht hpm 9 (Nat.le_refl _) A hA
      have x2 : (if nI 3 < (2 : Int32) then 3 + k else (if nI 3 = (2 : Int32) then 9 + (8 * k) else (9 + (8 * k)) + 3)) = (9 + (8 * k)) + 3 := rfl
      have x3 : (if nI 3 < (2 : Int32) then (60 : Int32) else if nI 3 = (2 : Int32) then (5 : Int32) else (9 : Int32)) = nI (1 + 9) + (-1) := by decide
      rw [x2, x3] at hM
      generalize hL : f_Model_who_L152 U H (nI 3) v ((9 + (8 * k)) + 3) 62 0 0 (-1000000) (nI (1 + 9) + (-1)) (va_up W 2 (f_copies (W 0) (W 2) 0 0)) gvn costs lst sets bst = L at hM
      obtain ⟨l1, l2, l3, l4⟩ := whoM (P := P) (lo := 1) (n5 := (9 + (8 * k)) + 3) (N := 9) (Or.inr rfl) (by decide) (by omega) (by omega) (fun d hd W wi g c l s hmm => by
        obtain ⟨kn, hkn⟩ := pc_ex hP (show k < P 0 by omega) hc hs hd
        have := (CO_of hkn).2 W wi g c l s hmm
        rw [vu_ne (show (0 : Nat) ≠ (9 + (8 * k)) + 3 by omega), vu_ne (show (1 : Nat) ≠ (9 + (8 * k)) + 3 by omega)] at this
        rw [eU, eH]
        exact this) 9 (Nat.le_refl _) 62 (by omega) 0 0 (-1000000) _ gvn costs lst sets bst (hcop ((9 + (8 * k)) + 3)) L hL
      rw [lt_eq] at hM
      rw [lt_eq] at hR
      subst hR hM
      refine ⟨?_, a2, ⟨by dsimp only; rw [k1.1]; exact hP.2.1, by dsimp only; rw [k1.2.1]; exact hP.1, a5.2.1⟩, by dsimp only; rw [l4 0 (by decide), vu_ne (by decide)]⟩
      dsimp only
      rw [iteF (show ¬ nI 3 = (0 : Int32) by decide), iteF (show ¬ nI 3 = (1 : Int32) by decide), l1, iteT (show (1 : Int32) < nI 3 by decide), Int32.zero_or, a1]
    · rw [t1, iteF (show ¬ (1 : Int32) = 0 by decide)] at hR
      rw [t2, iteT (show (0 : Int32) = 0 from rfl), iteT (show (0 : Int32) = 0 from rfl)] at hM
      subst hR hM
      exact ⟨rfl, hpm, ⟨hH2, hU2, hO2⟩, rfl⟩
end WHO
theorem s_who {G : mG} {h : mHp} {x b : Nat} (I : INV h x b) (wh xx v : Int32) : STP G x b 5 7 mX7_who mX8_who [.int wh, .int xx, .int v] h := by
  obtain ⟨hxb, fin, lf, kn, ik, it, lan, siz, tape, ln, P, K, afi, asz, Z, left, nl, lane, many, items, spare, fp, mat, mst, tok, mval, W, past, imgs, kept, gvn, costs, lst, sets, bst, mlo, mal, mpr, lak, trc, C, M, r1, ⟨r2, r2b⟩, r3, r4, ⟨r5, r5b, r5c⟩, ⟨r6, r6b⟩, r7⟩ := I
  obtain ⟨v0, v1, v2, v3, v4, v5, v6, v7, v8, v9, v10, v11⟩ := id C
  obtain ⟨H, U, res, dem, kin, low, hig, pri, sta, ups, dow, onn, ord, flo, sro, sco, vd, hP, hc, hs⟩ := v3
  have hU : U ≤ 4 := by rw [hc.2.1]; exact hP.1
  have hH : H ≤ 6 := by rw [hc.1]; exact hP.2.1
  have w0 : W 0 0 = nI U := by rw [r3 0 (by omega), hc.2.1]
  have w1 : W 0 1 = nI H := by rw [r3 1 (by omega), hc.1]
  obtain ⟨con, cst, cpa, car, sc, sz, wt, tof, ton, w3, pa, pb, ps, su, ss, sk, vs, ht, hpm⟩ := v9
  obtain ⟨hup, hdn⟩ := puP hP hc
  obtain ⟨H2, U2, res2, dem2, kin2, low2, hig2, pri2, sta2, ups2, dow2, onn2, ord2, flo2, sro2, sco2, ve, hH2, hU2, hO2⟩ := v4
  have k1 := Ret.hyp2 vs ve (c_UH_who (G := G) (h := h) (wh := wh) (xx := xx) (v := v) v0 vd (by omega) (by omega) (by omega) (by omega) (by omega) (by omega) hpm.1 hpm.2.2.1 hU hH hup hdn hs.2.1 hpm.2.1 hO2)
  generalize hR : f_UH_who H U res dem kin low hig pri sta ups dow onn ord flo sro sco con cst cpa car sc sz wt tof ton w3 pa pb ps su ss sk H2 U2 res2 dem2 kin2 low2 hig2 pri2 sta2 ups2 dow2 onn2 ord2 flo2 sro2 sco2 wh xx v (fun j => P ((9 + (8 * j)) + 5)) (fun j => P ((9 + (8 * j)) + 6)) = R at k1
  have k2 := fun h1 (M1 : isV h1 b (modL b lane many items spare fin tape ln lf fp mat mst tok mval W past asz imgs kept gvn costs lst sets bst mlo mal mpr lak trc nl)) => RetB.hyp M1 (c_Model_who (G := G) (wh := wh) (x := xx) (v := v) w0 hU w1 hH)
  generalize hM : f_Model_who W gvn costs lst sets bst wh xx v U H = N at k2
  obtain ⟨e, m1, ⟨t1, t2, t3⟩, m3⟩ := who_R hP hc hs r3 ht hpm hH2 hU2 hO2 hR hM
  rw [e] at k1
  exact ⟨_, _, _, k1, k2 _ (mV_ov (n := 14) (a := x + 29) rfl (by omega) (mV_ov (n := 21) (a := x + 298) rfl (by omega) M)), ⟨hxb, _, _, _, _, _, _, _, _, _, _, _, _, _, _, _, _, _, _, _, _, _, _, _, _, _, _, _, _, _, _, _, _, _, _, _, _, _, _, _, CI_m hxb (CI_e (CI_s C ht m1) t1 t2 t3), ov_isV, ⟨r1, ⟨r2, r2b⟩, by rw [m3]; exact r3, r4, ⟨r5, r5b, r5c⟩, ⟨r6, r6b⟩, r7⟩⟩⟩
