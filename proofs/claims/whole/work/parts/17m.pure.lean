section BS2
variable {P : Nat → Nat} {W : Nat → Nat → Int32} {kn : Int64} {ik : Int32} {con cst : Nat → Int32} {cpa : Nat → Int64} {sc sz wt : Nat → Nat} {tof ton : Nat → Nat → Int32} {w3 : Nat → Nat → Int64} {pa pb ps su ss sk : Nat} {H U : Nat} {res : Int32} {dem kin low hig pri sta ups dow onn : Nat → Int32} {ord : Nat → Nat} {flo sro sco : Nat → Int32}
theorem want_L {gvn costs lst sets : Nat → Int32} {bst : Int32} (hP : nOK P) (hc : cD P H U res dem kin low hig pri sta ups dow onn) (hs : cS P ord flo sro sco) (hm : mD (W 0) P) (ht : tbl con cst) (hpm : perm3 pa pb ps) : ∀ k, k ≤ P 0 → (f_UH_wanted_L26 H U res dem kin hig pri ord flo sro sco con cst (fun j => P ((9 + (8 * j)) + 5)) (fun j => P ((9 + (8 * j)) + 6)) 0 cpa sc sz wt tof ton w3 pa ps su ss sk k).1 = (f_Model_wanted_L32 W U H 0 gvn costs lst sets bst k).1 ∧ perm3 (f_UH_wanted_L26 H U res dem kin hig pri ord flo sro sco con cst (fun j => P ((9 + (8 * j)) + 5)) (fun j => P ((9 + (8 * j)) + 6)) 0 cpa sc sz wt tof ton w3 pa ps su ss sk k).2.2.2.2.2.2.2.2.1 pb (f_UH_wanted_L26 H U res dem kin hig pri ord flo sro sco con cst (fun j => P ((9 + (8 * j)) + 5)) (fun j => P ((9 + (8 * j)) + 6)) 0 cpa sc sz wt tof ton w3 pa ps su ss sk k).2.2.2.2.2.2.2.2.2.1 := by
  have eH : H = P 1 := hc.1
  have eU : U = P 0 := hc.2.1
  intro k
  induction k with
  | zero => intro _; exact ⟨rfl, hpm⟩
  | succ k ih =>
    intro hk
    obtain ⟨i1, i2⟩ := ih (by omega)
    rw [f_UH_wanted_L26, f_Model_wanted_L32]
    generalize f_UH_wanted_L26 H U res dem kin hig pri ord flo sro sco con cst (fun j => P ((9 + (8 * j)) + 5)) (fun j => P ((9 + (8 * j)) + 6)) 0 cpa sc sz wt tof ton w3 pa ps su ss sk k = A at i1 i2
    generalize f_Model_wanted_L32 W U H 0 gvn costs lst sets bst k = B at i1
    unfold f_UH_wanted_L26s f_Model_wanted_L32s
    have hb := best_is (lost := nI k) (wo := nI k) (cpa := A.2.1) (ssc := A.2.2.1) (ssz := A.2.2.2.1) (swt := A.2.2.2.2.1) (tof := A.2.2.2.2.2.1) (ton := A.2.2.2.2.2.2.1) (w3 := A.2.2.2.2.2.2.2.1) (pa := A.2.2.2.2.2.2.2.2.1) (ps := A.2.2.2.2.2.2.2.2.2.1) hP (by decide) hc hs ht i2.2.2.2.2.1 (Or.inr ⟨k, by have := hP.1; omega, rfl, rfl⟩)
    have hsw := fb_sw (R := f_Search_findBest con cst A.2.1 A.2.2.1 A.2.2.2.1 A.2.2.2.2.1 A.2.2.2.2.2.1 A.2.2.2.2.2.2.1 A.2.2.2.2.2.2.2.1 A.2.2.2.2.2.2.2.2.1 A.2.2.2.2.2.2.2.2.2.1 H U res dem kin hig pri ord flo sro sco (nI k) (fun j => P ((9 + (8 * j)) + 5)) (fun j => P ((9 + (8 * j)) + 6))) rfl
    generalize f_Search_findBest con cst A.2.1 A.2.2.1 A.2.2.2.1 A.2.2.2.2.1 A.2.2.2.2.2.1 A.2.2.2.2.2.2.1 A.2.2.2.2.2.2.2.1 A.2.2.2.2.2.2.2.2.1 A.2.2.2.2.2.2.2.2.2.1 H U res dem kin hig pri ord flo sro sco (nI k) (fun j => P ((9 + (8 * j)) + 5)) (fun j => P ((9 + (8 * j)) + 6)) = fb at hb hsw
    have hbc := bestC (gvn := B.2.1) (costs := B.2.2.1) (lst := B.2.2.2.1) (sets := B.2.2.2.2.1) hb hm
    rw [← eU, ← eH] at hbc
    generalize f_Model_bestCost W B.2.1 B.2.2.1 B.2.2.2.1 B.2.2.2.2.1 (nI k) 0 U H = m at hbc
    rw [lt_eq, lt_eq]
    dsimp only
    refine ⟨?_, ?_⟩
    · rw [i1]
      rcases hbc with ⟨b1, b2, -⟩ | ⟨b1, b2, -⟩
      · rw [if_pos b1, if_pos b2]
      · rw [if_neg b1, if_neg b2, Int32.or_zero]
    · unfold swp at hsw
      unfold perm3 at i2 ⊢
      omega
theorem wanted_R {gvn costs lst sets : Nat → Int32} {bst : Int32} {R : Int32 × (Nat → Int64) × (Nat → Nat) × (Nat → Nat) × (Nat → Nat) × (Nat → Nat → Int32) × (Nat → Nat → Int32) × (Nat → Nat → Int64) × Nat × Nat × Nat × Nat × Nat × Int64 × Int32} {M : Int32 × (Nat → Int32) × (Nat → Int32) × (Nat → Int32) × (Nat → Int32) × Int32} (hP : nOK P) (hc : cD P H U res dem kin low hig pri sta ups dow onn) (hs : cS P ord flo sro sco) (hm : mD (W 0) P) (ht : tbl con cst) (hpm : perm3 pa pb ps) (h7 : ik = 0 ∨ bestIs (-1000000) P kn) (hR : f_UH_wanted kn ik H U res dem kin hig pri ord flo sro sco con cst cpa sc sz wt tof ton w3 pa ps su ss sk (fun j => P ((9 + (8 * j)) + 5)) (fun j => P ((9 + (8 * j)) + 6)) = R) (hM : f_Model_wanted W gvn costs lst sets bst U H = M) : R.1 = M.1 ∧ perm3 R.2.2.2.2.2.2.2.2.1 pb R.2.2.2.2.2.2.2.2.2.1 ∧ (R.2.2.2.2.2.2.2.2.2.2.2.2.2.2 = 0 ∨ bestIs (-1000000) P R.2.2.2.2.2.2.2.2.2.2.2.2.2.1) := by
  have hdc := dayC hP hm hc
  have eH : H = P 1 := hc.1
  have eU : U = P 0 := hc.2.1
  unfold f_UH_wanted at hR
  unfold f_Model_wanted at hM
  rcases hdc with ⟨g1, g2, -⟩ | ⟨g1, g2, -⟩
  · rw [g1, iteF (show ¬ (1 : Int32) = 0 by decide)] at hR
    rw [g2, iteT (show (0 : Int32) = 0 from rfl)] at hM
    subst hR hM
    exact ⟨rfl, hpm, h7⟩
  · rw [g1, iteT (show (0 : Int32) = 0 from rfl)] at hR
    rw [g2, iteF (show ¬ (1 : Int32) = 0 by decide)] at hM
    generalize hq : f_UH_bestNow kn ik H U res dem kin hig pri ord flo sro sco con cst cpa sc sz wt tof ton w3 pa ps su ss sk (fun j => P ((9 + (8 * j)) + 5)) (fun j => P ((9 + (8 * j)) + 6)) = q at hR
    obtain ⟨n1, n2, n3⟩ := bestNow_R hP hc hs ht hpm h7 hq
    have hbc := bestC (gvn := gvn) (costs := costs) (lst := lst) (sets := sets) n1 hm
    rw [← eU, ← eH] at hbc
    generalize f_Model_bestCost W gvn costs lst sets (-1000000) 0 U H = m at hM hbc
    have hfin : q.2.2.2.2.2.2.2.2.2.2.2.2.2.2 = 0 ∨ bestIs (-1000000) P q.2.2.2.2.2.2.2.2.2.2.2.2.2.1 := Or.inr (by rw [n3]; exact n1)
    rw [lt_eq] at hR hM
    rcases hbc with ⟨b1, b2, b3⟩ | ⟨b1, b2, b3, b4, -⟩
    · rw [if_pos b1] at hR
      rw [if_pos b2] at hM
      subst hR hM
      exact ⟨rfl, n2, hfin⟩
    · rw [if_neg b1] at hR
      rw [if_neg b2] at hM
      obtain ⟨w1, w2⟩ := want_L (gvn := m.2.1) (costs := m.2.2.1) (lst := m.2.2.2.1) (sets := m.2.2.2.2.1) (bst := m.2.2.2.2.2) (cpa := q.2.1) (sc := q.2.2.1) (sz := q.2.2.2.1) (wt := q.2.2.2.2.1) (tof := q.2.2.2.2.2.1) (ton := q.2.2.2.2.2.2.1) (w3 := q.2.2.2.2.2.2.2.1) (su := q.2.2.2.2.2.2.2.2.2.2.1) (ss := q.2.2.2.2.2.2.2.2.2.2.2.1) (sk := q.2.2.2.2.2.2.2.2.2.2.2.2.1) hP hc hs hm ht n2 (P 0) (Nat.le_refl _)
      rw [← eU] at w1 w2
      rw [lt_eq] at hR hM
      subst hR hM
      exact ⟨w1, w2, hfin⟩
theorem more_R {hr : Int32} {gvn costs lst sets : Nat → Int32} {bst : Int32} {H2 U2 : Nat} {res2 : Int32} {dem2 kin2 low2 hig2 pri2 sta2 ups2 dow2 onn2 : Nat → Int32} {ord2 : Nat → Nat} {flo2 sro2 sco2 : Nat → Int32} {R : Int32 × (Nat → Int64) × (Nat → Nat) × (Nat → Nat) × (Nat → Nat) × (Nat → Nat → Int32) × (Nat → Nat → Int32) × (Nat → Nat → Int64) × Nat × Nat × Nat × Nat × Nat × Nat × Nat × Int32 × (Nat → Int32) × (Nat → Int32) × (Nat → Int32) × (Nat → Int32) × (Nat → Int32) × (Nat → Int32) × (Nat → Int32) × (Nat → Int32) × (Nat → Int32) × (Nat → Nat) × (Nat → Int32) × (Nat → Int32) × (Nat → Int32) × Int64 × Int32} {M : Int32 × (Nat → Nat → Int32) × (Nat → Int32) × (Nat → Int32) × (Nat → Int32) × (Nat → Int32) × Int32} (hP : nOK P) (hc : cD P H U res dem kin low hig pri sta ups dow onn) (hs : cS P ord flo sro sco) (hm : mD (W 0) P) (ht : tbl con cst) (hpm : perm3 pa pb ps) (h7 : ik = 0 ∨ bestIs (-1000000) P kn) (hH2 : H2 ≤ 6) (hU2 : U2 ≤ 4) (hO2 : ∀ j, j < 4 → ord2 j < 4) (hR : f_UH_more kn ik H U res dem kin low hig pri sta ups dow onn ord flo sro sco con cst cpa sc sz wt tof ton w3 pa ps su ss sk H2 U2 res2 dem2 kin2 low2 hig2 pri2 sta2 ups2 dow2 onn2 ord2 flo2 sro2 sco2 hr (fun j => P ((9 + (8 * j)) + 5)) (fun j => P ((9 + (8 * j)) + 6)) = R) (hM : f_Model_more W gvn costs lst sets bst hr U H = M) : R.1 = M.1 ∧ perm3 R.2.2.2.2.2.2.2.2.1 pb R.2.2.2.2.2.2.2.2.2.1 ∧ (R.2.2.2.2.2.2.2.2.2.2.2.2.2.1 ≤ 6 ∧ R.2.2.2.2.2.2.2.2.2.2.2.2.2.2.1 ≤ 4 ∧ ∀ j, j < 4 → R.2.2.2.2.2.2.2.2.2.2.2.2.2.2.2.2.2.2.2.2.2.2.2.2.2.1 j < 4) ∧ M.2.1 0 = W 0 ∧ (R.2.2.2.2.2.2.2.2.2.2.2.2.2.2.2.2.2.2.2.2.2.2.2.2.2.2.2.2.2.2 = 0 ∨ bestIs (-1000000) P R.2.2.2.2.2.2.2.2.2.2.2.2.2.2.2.2.2.2.2.2.2.2.2.2.2.2.2.2.2.1) := by
  have eH : H = P 1 := hc.1
  have eU : U = P 0 := hc.2.1
  have hH : H ≤ 6 := by rw [eH]; exact hP.2.1
  have hdd := dem_facts hP hm hc
  unfold f_UH_more at hR
  unfold f_Model_more at hM
  rcases hourC (u := hr) hH with ⟨k, hk, rfl, g1, g2⟩ | ⟨g1, g2⟩
  · rw [g1, iteT (show (0 : Int32) = 0 from rfl), nI_clamp (by omega)] at hR
    rw [g2, iteF (show ¬ (1 : Int32) = 0 by decide), nI_clamp (by omega)] at hM
    generalize hq : f_UH_bestNow kn ik H U res dem kin hig pri ord flo sro sco con cst cpa sc sz wt tof ton w3 pa ps su ss sk (fun j => P ((9 + (8 * j)) + 5)) (fun j => P ((9 + (8 * j)) + 6)) = q at hR
    obtain ⟨n1, n2, n3⟩ := bestNow_R hP hc hs ht hpm h7 hq
    have hbc := bestC (gvn := gvn) (costs := costs) (lst := lst) (sets := sets) n1 hm
    rw [← eU, ← eH] at hbc
    generalize f_Model_bestCost W gvn costs lst sets (-1000000) 0 U H = m at hM hbc
    have hfin : q.2.2.2.2.2.2.2.2.2.2.2.2.2.2 = 0 ∨ bestIs (-1000000) P q.2.2.2.2.2.2.2.2.2.2.2.2.2.1 := Or.inr (by rw [n3]; exact n1)
    rw [lt_eq] at hR hM
    rw [lt_eq] at hM
    have hcop : ∀ j, j < 41 → f_copies (W 0) (W 2) 0 0 j = W 0 j := fun j hj => copies0 hj
    rcases hbc with ⟨b1, b2, b3⟩ | ⟨b1, b2, b3, b4, -⟩
    · rw [iteT (show f_Search_costOf q.1 < 0 by rw [b3]; decide)] at hR
      rw [if_pos b2] at hM
      subst hR hM
      exact ⟨rfl, n2, ⟨hH2, hU2, hO2⟩, by dsimp only; rw [vu_ne (by decide)], hfin⟩
    · rw [if_neg b4] at hR
      rw [if_neg b2] at hM
      have kl := cD_like (R := f_Day_becomeLike dem2 kin2 low2 hig2 pri2 sta2 ups2 dow2 onn2 ord2 flo2 sro2 sco2 H U res dem kin low hig pri sta ups dow onn) hP hc hO2 rfl
      generalize f_Day_becomeLike dem2 kin2 low2 hig2 pri2 sta2 ups2 dow2 onn2 ord2 flo2 sro2 sco2 H U res dem kin low hig pri sta ups dow onn = B at hR kl
      obtain ⟨k1, k2⟩ := kl
      rw [lt_eq] at hR
      have hd60 : P (3 + k) ≤ 60 := hP.2.2.2.2.1 k (by omega)
      have hP2 : nOKb 61 (va_up P (3 + k) (P (3 + k) + 1)) := nOKb_dem hP (by decide) (by omega) (by omega)
      have ed : B.2.2.2.1 k + (1 : Int32) = nI (P (3 + k) + 1) := by rw [k1.2.2.2.1 k (by omega)]; exact nI_p1
      rw [ed] at hR
      have hc2 : cD (va_up P (3 + k) (P (3 + k) + 1)) B.1 B.2.1 B.2.2.1 (upd B.2.2.2.1 k (nI (P (3 + k) + 1))) B.2.2.2.2.1 B.2.2.2.2.2.1 B.2.2.2.2.2.2.1 B.2.2.2.2.2.2.2.1 B.2.2.2.2.2.2.2.2.1 B.2.2.2.2.2.2.2.2.2.1 B.2.2.2.2.2.2.2.2.2.2.1 B.2.2.2.2.2.2.2.2.2.2.2.1 := by rw [upd_eq]; exact cD_dem k1 (by omega) hP.2.1
      have hs2 := cS_dem (h := k) (v := P (3 + k) + 1) (by omega) k2
      have hb := best_is (lost := -1000000) (wo := -1) (cpa := q.2.1) (ssc := q.2.2.1) (ssz := q.2.2.2.1) (swt := q.2.2.2.2.1) (tof := q.2.2.2.2.2.1) (ton := q.2.2.2.2.2.2.1) (w3 := q.2.2.2.2.2.2.2.1) (pa := q.2.2.2.2.2.2.2.2.1) (ps := q.2.2.2.2.2.2.2.2.2.1) hP2 (by decide) hc2 hs2 ht n2.2.2.2.2.1 (Or.inl ⟨rfl, rfl⟩)
      have zu : (fun j => va_up P (3 + k) (P (3 + k) + 1) ((9 + (8 * j)) + 5)) = fun j => P ((9 + (8 * j)) + 5) := by
        funext j; rw [vu_ne (by omega)]
      have zd : (fun j => va_up P (3 + k) (P (3 + k) + 1) ((9 + (8 * j)) + 6)) = fun j => P ((9 + (8 * j)) + 6) := by
        funext j; rw [vu_ne (by omega)]
      rw [zu, zd] at hb
      have hm2 : mD ((va_up W 2 (upd (f_copies (W 0) (W 2) 0 0) (3 + k) ((f_copies (W 0) (W 2) 0 0) (3 + k) + (1 : Int32)))) 2) (va_up P (3 + k) (P (3 + k) + 1)) := by
        rw [vu_self, hcop (3 + k) (by omega), hm (3 + k) (by omega), nI_p1, upd_eq]
        exact mD_up (fun j hj => by rw [hcop j hj]; exact hm j hj)
      have hbc2 := bestC (wi := 2) (gvn := m.2.1) (costs := m.2.2.1) (lst := m.2.2.2.1) (sets := m.2.2.2.2.1) hb hm2
      rw [vu_ne (show (0 : Nat) ≠ 3 + k by omega), vu_ne (show (1 : Nat) ≠ 3 + k by omega), ← eU, ← eH] at hbc2
      have hsw := fb_sw (R := f_Search_findBest con cst q.2.1 q.2.2.1 q.2.2.2.1 q.2.2.2.2.1 q.2.2.2.2.2.1 q.2.2.2.2.2.2.1 q.2.2.2.2.2.2.2.1 q.2.2.2.2.2.2.2.2.1 q.2.2.2.2.2.2.2.2.2.1 B.1 B.2.1 B.2.2.1 (upd B.2.2.2.1 k (nI (P (3 + k) + 1))) B.2.2.2.2.1 B.2.2.2.2.2.2.1 B.2.2.2.2.2.2.2.1 B.2.2.2.2.2.2.2.2.2.2.2.2.1 B.2.2.2.2.2.2.2.2.2.2.2.2.2.1 B.2.2.2.2.2.2.2.2.2.2.2.2.2.2.1 B.2.2.2.2.2.2.2.2.2.2.2.2.2.2.2 (-1) (fun j => P ((9 + (8 * j)) + 5)) (fun j => P ((9 + (8 * j)) + 6))) rfl
      generalize f_Search_findBest con cst q.2.1 q.2.2.1 q.2.2.2.1 q.2.2.2.2.1 q.2.2.2.2.2.1 q.2.2.2.2.2.2.1 q.2.2.2.2.2.2.2.1 q.2.2.2.2.2.2.2.2.1 q.2.2.2.2.2.2.2.2.2.1 B.1 B.2.1 B.2.2.1 (upd B.2.2.2.1 k (nI (P (3 + k) + 1))) B.2.2.2.2.1 B.2.2.2.2.2.2.1 B.2.2.2.2.2.2.2.1 B.2.2.2.2.2.2.2.2.2.2.2.2.1 B.2.2.2.2.2.2.2.2.2.2.2.2.2.1 B.2.2.2.2.2.2.2.2.2.2.2.2.2.2.1 B.2.2.2.2.2.2.2.2.2.2.2.2.2.2.2 (-1) (fun j => P ((9 + (8 * j)) + 5)) (fun j => P ((9 + (8 * j)) + 6)) = fb at hR hbc2 hsw
      generalize f_Model_bestCost (va_up W 2 (upd (f_copies (W 0) (W 2) 0 0) (3 + k) ((f_copies (W 0) (W 2) 0 0) (3 + k) + (1 : Int32)))) m.2.1 m.2.2.1 m.2.2.2.1 m.2.2.2.2.1 (-1000000) 2 U H = m2 at hM hbc2
      rw [lt_eq] at hR
      subst hR hM
      dsimp only
      refine ⟨?_, ?_, ⟨by rw [k1.1, ← eH]; exact hH, by rw [k1.2.1]; exact hP.1, k2.2.1⟩, by rw [vu_ne (by decide)], hfin⟩
      · rcases hbc2 with ⟨c1, c2, c3⟩ | ⟨c1, c2, c3, c4, -⟩
        · rw [iteT (show f_Search_costOf fb.1 < 0 by rw [c3]; decide), if_pos c2]
        · rw [if_neg c4, if_neg c2, c3, b3]
      · unfold swp at hsw
        unfold perm3 at n2 ⊢
        omega
  · rw [g1, iteF (show ¬ (1 : Int32) = 0 by decide)] at hR
    rw [g2, iteT (show (0 : Int32) = 0 from rfl)] at hM
    subst hR hM
    exact ⟨rfl, hpm, ⟨hH2, hU2, hO2⟩, rfl, h7⟩
end BS2
theorem s_wanted {G : mG} {h : mHp} {x b : Nat} (I : INV h x b)  : STP G x b 5 7 mX7_wanted mX8_wanted [] h := by
  obtain ⟨hxb, fin, lf, kn, ik, it, lan, siz, tape, ln, P, K, afi, asz, Z, left, nl, lane, many, items, spare, fp, mat, mst, tok, mval, W, past, imgs, kept, gvn, costs, lst, sets, bst, mlo, mal, mpr, lak, trc, C, M, r1, ⟨r2, r2b⟩, r3, r4, ⟨r5, r5b, r5c⟩, ⟨r6, r6b⟩, r7⟩ := I
  obtain ⟨v0, v1, v2, v3, v4, v5, v6, v7, v8, v9, v10, v11⟩ := id C
  obtain ⟨H, U, res, dem, kin, low, hig, pri, sta, ups, dow, onn, ord, flo, sro, sco, vd, hP, hc, hs⟩ := v3
  have hU : U ≤ 4 := by rw [hc.2.1]; exact hP.1
  have hH : H ≤ 6 := by rw [hc.1]; exact hP.2.1
  have w0 : W 0 0 = nI U := by rw [r3 0 (by omega), hc.2.1]
  have w1 : W 0 1 = nI H := by rw [r3 1 (by omega), hc.1]
  obtain ⟨con, cst, cpa, car, sc, sz, wt, tof, ton, w3, pa, pb, ps, su, ss, sk, vs, ht, hpm⟩ := v9
  obtain ⟨hup, hdn⟩ := puP hP hc
  have k1 := Ret.hyp2 vs v0 (c_UH_wanted (G := G) (h := h) vd (by omega) (by omega) (by omega) (by omega) hpm.1 hpm.2.2.1 hU hH hup hdn hs.2.1)
  generalize hR : f_UH_wanted kn ik H U res dem kin hig pri ord flo sro sco con cst cpa sc sz wt tof ton w3 pa ps su ss sk (fun j => P ((9 + (8 * j)) + 5)) (fun j => P ((9 + (8 * j)) + 6)) = R at k1
  have k2 := fun h1 (M1 : isV h1 b (modL b lane many items spare fin tape ln lf fp mat mst tok mval W past asz imgs kept gvn costs lst sets bst mlo mal mpr lak trc nl)) => RetB.hyp M1 (c_Model_wanted (G := G) w0 hU w1 hH)
  generalize hM : f_Model_wanted W gvn costs lst sets bst U H = N at k2
  obtain ⟨e, m1, m2⟩ := wanted_R hP hc hs r3 ht hpm r7 hR hM
  rw [e] at k1
  exact ⟨_, _, _, k1, k2 _ (mV_ov (n := 1) (a := x) rfl (by omega) (mV_ov (n := 21) (a := x + 298) rfl (by omega) M)), ⟨hxb, _, _, _, _, _, _, _, _, _, _, _, _, _, _, _, _, _, _, _, _, _, _, _, _, _, _, _, _, _, _, _, _, _, _, _, _, _, _, _, CI_m hxb (CI_x (CI_s C ht m1)), ov_isV, ⟨r1, ⟨r2, r2b⟩, r3, r4, ⟨r5, r5b, r5c⟩, ⟨r6, r6b⟩, m2⟩⟩⟩
theorem s_more {G : mG} {h : mHp} {x b : Nat} (I : INV h x b) (hr : Int32) : STP G x b 5 7 mX7_more mX8_more [.int hr] h := by
  obtain ⟨hxb, fin, lf, kn, ik, it, lan, siz, tape, ln, P, K, afi, asz, Z, left, nl, lane, many, items, spare, fp, mat, mst, tok, mval, W, past, imgs, kept, gvn, costs, lst, sets, bst, mlo, mal, mpr, lak, trc, C, M, r1, ⟨r2, r2b⟩, r3, r4, ⟨r5, r5b, r5c⟩, ⟨r6, r6b⟩, r7⟩ := I
  obtain ⟨v0, v1, v2, v3, v4, v5, v6, v7, v8, v9, v10, v11⟩ := id C
  obtain ⟨H, U, res, dem, kin, low, hig, pri, sta, ups, dow, onn, ord, flo, sro, sco, vd, hP, hc, hs⟩ := v3
  have hU : U ≤ 4 := by rw [hc.2.1]; exact hP.1
  have hH : H ≤ 6 := by rw [hc.1]; exact hP.2.1
  have w0 : W 0 0 = nI U := by rw [r3 0 (by omega), hc.2.1]
  have w1 : W 0 1 = nI H := by rw [r3 1 (by omega), hc.1]
  obtain ⟨con, cst, cpa, car, sc, sz, wt, tof, ton, w3, pa, pb, ps, su, ss, sk, vs, ht, hpm⟩ := v9
  obtain ⟨hup, hdn⟩ := puP hP hc
  obtain ⟨H2, U2, res2, dem2, kin2, low2, hig2, pri2, sta2, ups2, dow2, onn2, ord2, flo2, sro2, sco2, ve, hH2, hU2, hO2⟩ := v4
  have k1 := Ret.hyp3 vs ve v0 (c_UH_more (G := G) (h := h) (hr := hr) vd (by omega) (by omega) (by omega) (by omega) (by omega) (by omega) (by omega) (by omega) (by omega) hpm.1 hpm.2.2.1 hU hH hup hdn hs.2.1 hO2)
  generalize hR : f_UH_more kn ik H U res dem kin low hig pri sta ups dow onn ord flo sro sco con cst cpa sc sz wt tof ton w3 pa ps su ss sk H2 U2 res2 dem2 kin2 low2 hig2 pri2 sta2 ups2 dow2 onn2 ord2 flo2 sro2 sco2 hr (fun j => P ((9 + (8 * j)) + 5)) (fun j => P ((9 + (8 * j)) + 6)) = R at k1
  have k2 := fun h1 (M1 : isV h1 b (modL b lane many items spare fin tape ln lf fp mat mst tok mval W past asz imgs kept gvn costs lst sets bst mlo mal mpr lak trc nl)) => RetB.hyp M1 (c_Model_more (G := G) (hr := hr) w0 hU w1 hH)
  generalize hM : f_Model_more W gvn costs lst sets bst hr U H = N at k2
  obtain ⟨e, m1, ⟨t1, t2, t3⟩, m3, m2⟩ := more_R hP hc hs r3 ht hpm r7 hH2 hU2 hO2 hR hM
  rw [e] at k1
  exact ⟨_, _, _, k1, k2 _ (mV_ov (n := 1) (a := x) rfl (by omega) (mV_ov (n := 14) (a := x + 29) rfl (by omega) (mV_ov (n := 21) (a := x + 298) rfl (by omega) M))), ⟨hxb, _, _, _, _, _, _, _, _, _, _, _, _, _, _, _, _, _, _, _, _, _, _, _, _, _, _, _, _, _, _, _, _, _, _, _, _, _, _, _, CI_m hxb (CI_x (CI_e (CI_s C ht m1) t1 t2 t3)), ov_isV, ⟨r1, ⟨r2, r2b⟩, by rw [m3]; exact r3, r4, ⟨r5, r5b, r5c⟩, ⟨r6, r6b⟩, m2⟩⟩⟩
