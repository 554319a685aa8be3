theorem bestC {P : Nat → Nat} {kn : Int64} {lost : Int32} {W : Nat → Nat → Int32} {wi : Nat} {gvn costs lst sets : Nat → Int32} (h : bestIs lost P kn) (hm : mD (W wi) P) : (kn < 0 ∧ (f_Model_bestCost W gvn costs lst sets lost wi (P 0) (P 1)).1 = -1000000 ∧ f_Search_costOf kn = -1000000) ∨ (¬ kn < 0 ∧ ¬ (f_Model_bestCost W gvn costs lst sets lost wi (P 0) (P 1)).1 = -1000000 ∧ (f_Model_bestCost W gvn costs lst sets lost wi (P 0) (P 1)).1 = f_Search_costOf kn ∧ ¬ f_Search_costOf kn < 0 ∧ ∃ D, D < FARn ∧ kn = lN D ∧ (∀ h, h < P 1 → (f_Model_bestCost W gvn costs lst sets lost wi (P 0) (P 1)).2.2.2.2.1 h = f_Search_unitsIn kn (nI h)) ∧ ∀ h, P 1 ≤ h → h < 6 → f_Search_unitsIn kn (nI h) = 0) := by
  obtain ⟨D, b1, b2, b3, b4, b5, b6⟩ := h W wi gvn costs lst sets hm
  have hco := cob (D := D)
  rw [← b2] at hco
  by_cases c : D < FARn
  · rw [if_pos c] at hco
    have hkn : kn = lN D := b2.trans (if_pos c)
    have hq : D / 16777216 < 2 ^ 31 := by
      rcases b1 with z | z
      · exact Nat.lt_trans (Nat.div_lt_of_lt_mul (show D < 16777216 * 1048576 from z)) (by decide)
      · rw [z] at c; exact absurd c (Nat.lt_irrefl _)
    have hnn : ¬ f_Search_costOf kn < 0 := by rw [hco]; exact nI_nneg hq
    refine Or.inr ⟨?_, ?_, b3, hnn, D, c, hkn, b5 c, b6 c⟩
    · rw [hkn]
      exact fun z => Nat.not_lt_zero _ ((pk_lLT (b := 0) (by unfold FARn at c; omega) (by omega)).mp z)
    · rw [b3]
      intro z
      rw [z] at hnn
      exact hnn (by decide)
  · rw [if_neg c] at hco
    refine Or.inl ⟨?_, b3.trans hco, hco⟩
    rw [b2]
    unfold encB
    rw [if_neg c]
    decide
section BST
variable {P : Nat → Nat} {W : Nat → Nat → Int32} {kn : Int64} {ik : Int32} {con cst : Nat → Int32} {cpa : Nat → Int64} {sc sz wt : Nat → Nat} {tof ton : Nat → Nat → Int32} {w3 : Nat → Nat → Int64} {pa pb ps su ss sk : Nat} {H U : Nat} {res : Int32} {dem kin low hig pri sta ups dow onn : Nat → Int32} {ord : Nat → Nat} {flo sro sco : Nat → Int32}
theorem bestNow_R {q : Int64 × (Nat → Int64) × (Nat → Nat) × (Nat → Nat) × (Nat → Nat) × (Nat → Nat → Int32) × (Nat → Nat → Int32) × (Nat → Nat → Int64) × Nat × Nat × Nat × Nat × Nat × Int64 × Int32} (hP : nOK P) (hc : cD P H U res dem kin low hig pri sta ups dow onn) (hs : cS P ord flo sro sco) (ht : tbl con cst) (hpm : perm3 pa pb ps) (h7 : ik = 0 ∨ bestIs (-1000000) P kn) (hq : f_UH_bestNow kn ik H U res dem kin hig pri ord flo sro sco con cst cpa sc sz wt tof ton w3 pa ps su ss sk (fun j => P ((9 + (8 * j)) + 5)) (fun j => P ((9 + (8 * j)) + 6)) = q) : bestIs (-1000000) P q.1 ∧ perm3 q.2.2.2.2.2.2.2.2.1 pb q.2.2.2.2.2.2.2.2.2.1 ∧ q.2.2.2.2.2.2.2.2.2.2.2.2.2.1 = q.1 := by
  unfold f_UH_bestNow at hq
  by_cases c : ik = 0
  · rw [lt_eq, lt_eq, lt_eq, lt_eq, lt_eq, lt_eq, lt_eq, lt_eq, lt_eq, lt_eq, lt_eq, lt_eq, lt_eq] at hq
    simp only [if_pos c] at hq
    have hb := best_is (lost := -1000000) (wo := -1) (cpa := cpa) (ssc := sc) (ssz := sz) (swt := wt) (tof := tof) (ton := ton) (w3 := w3) (pa := pa) (ps := ps) hP (by decide) hc hs ht (show pa ≠ ps from hpm.2.2.2.2.1) (Or.inl ⟨rfl, rfl⟩)
    have hsw := fb_sw (R := f_Search_findBest con cst cpa sc sz wt tof ton w3 pa ps H U res dem kin hig pri ord flo sro sco (-1) (fun j => P ((9 + (8 * j)) + 5)) (fun j => P ((9 + (8 * j)) + 6))) rfl
    generalize f_Search_findBest con cst cpa sc sz wt tof ton w3 pa ps H U res dem kin hig pri ord flo sro sco (-1) (fun j => P ((9 + (8 * j)) + 5)) (fun j => P ((9 + (8 * j)) + 6)) = fb at hq hb hsw
    subst hq
    refine ⟨hb, ?_, rfl⟩
    dsimp only
    unfold swp at hsw
    unfold perm3 at hpm ⊢
    omega
  · simp only [if_neg c] at hq
    subst hq
    exact ⟨h7.resolve_left c, hpm, rfl⟩
theorem best_R {wh : Int32} {gvn costs lst sets : Nat → Int32} {bst : Int32} {R : Int32 × (Nat → Int64) × (Nat → Nat) × (Nat → Nat) × (Nat → Nat) × (Nat → Nat → Int32) × (Nat → Nat → Int32) × (Nat → Nat → Int64) × Nat × Nat × Nat × Nat × Nat × Int64 × Int32} {M : Int32 × (Nat → Int32) × (Nat → Int32) × (Nat → Int32) × (Nat → Int32) × Int32} (hP : nOK P) (hc : cD P H U res dem kin low hig pri sta ups dow onn) (hs : cS P ord flo sro sco) (hm : mD (W 0) P) (ht : tbl con cst) (hpm : perm3 pa pb ps) (h7 : ik = 0 ∨ bestIs (-1000000) P kn) (hR : f_UH_best kn ik H U res dem kin hig pri ord flo sro sco con cst cpa sc sz wt tof ton w3 pa ps su ss sk wh (fun j => P ((9 + (8 * j)) + 5)) (fun j => P ((9 + (8 * j)) + 6)) = R) (hM : f_Model_best W gvn costs lst sets bst wh U H = M) : R.1 = M.1 ∧ perm3 R.2.2.2.2.2.2.2.2.1 pb R.2.2.2.2.2.2.2.2.2.1 ∧ (R.2.2.2.2.2.2.2.2.2.2.2.2.2.2 = 0 ∨ bestIs (-1000000) P R.2.2.2.2.2.2.2.2.2.2.2.2.2.1) := by
  have hdc := dayC hP hm hc
  have hH : H ≤ 6 := by rw [hc.1]; exact hP.2.1
  have eH : H = P 1 := hc.1
  have eU : U = P 0 := hc.2.1
  unfold f_UH_best at hR
  unfold f_Model_best at hM
  rcases hdc with ⟨g1, g2, -⟩ | ⟨g1, g2, -⟩
  · rw [g1, iteF (show ¬ (1 : Int32) = 0 by decide)] at hR
    rw [g2, iteT (show (0 : Int32) = 0 from rfl)] at hM
    subst hR hM
    exact ⟨rfl, hpm, h7⟩
  · rw [g1, iteT (show (0 : Int32) = 0 from rfl)] at hR
    rw [g2, iteF (show ¬ (1 : Int32) = 0 by decide)] at hM
    generalize hq : f_UH_bestNow kn ik H U res dem kin hig pri ord flo sro sco con cst cpa sc sz wt tof ton w3 pa ps su ss sk (fun j => P ((9 + (8 * j)) + 5)) (fun j => P ((9 + (8 * j)) + 6)) = q at hR
    obtain ⟨n1, n2, n3⟩ := bestNow_R hP hc hs ht hpm h7 hq
    have hbc := bestC (gvn := gvn) (costs := costs) (lst := lst) (sets := sets) n1 hm
    rw [← eU, ← eH] at hbc
    generalize f_Model_bestCost W gvn costs lst sets (-1000000) 0 U H = m at hM hbc
    have hfin : q.2.2.2.2.2.2.2.2.2.2.2.2.2.2 = 0 ∨ bestIs (-1000000) P q.2.2.2.2.2.2.2.2.2.2.2.2.2.1 := Or.inr (by rw [n3]; exact n1)
    rcases whC (wh := wh) hH with ⟨w1, w2, w3⟩ | w1 | ⟨k, w1, w2, w3, w4, w5, w6, w7⟩ | ⟨w1, w2, w3, w4⟩
    · rw [if_pos w1] at hR
      rw [if_neg w2, w3, iteT (show (0 : Int32) = 0 from rfl)] at hM
      subst hR hM
      exact ⟨rfl, hpm, h7⟩
    · have wn : (-1 : Int32) < nI H := Int32.lt_iff_toInt_lt.mpr (by have := pk_sub_toInt (a := H) (b := 0) (by omega) (by omega); rw [pk_sub (Nat.zero_le _), Nat.sub_zero] at this; rw [this, show (-1 : Int32).toInt = -1 by decide]; omega)
      rw [w1, iteF (show ¬ (-1 : Int32) < -1 by decide), iteT wn, lt_eq, iteT (show (-1 : Int32) < 0 by decide)] at hR
      rw [w1, iteT (show (-1 : Int32) = -1 from rfl), lt_eq] at hM
      rcases hbc with ⟨b1, b2, b3⟩ | ⟨b1, b2, b3, b4, -⟩
      · rw [if_pos b1] at hR
        rw [if_pos b2] at hM
        subst hR hM
        exact ⟨b2.symm, n2, hfin⟩
      · rw [if_neg b1] at hR
        rw [if_neg b2, iteT (show (-1 : Int32) = -1 from rfl)] at hM
        subst hR hM
        exact ⟨b3.symm, n2, hfin⟩
    · rw [if_neg w3, if_pos w4, lt_eq, if_neg w5] at hR
      rw [if_neg w6, w7, iteF (show ¬ (1 : Int32) = 0 by decide), lt_eq, if_neg w6] at hM
      rcases hbc with ⟨b1, b2, b3⟩ | ⟨b1, b2, b3, b4, D, -, -, b5, -⟩
      · rw [if_pos b1] at hR
        rw [if_pos b2] at hM
        subst hR hM
        exact ⟨b2.symm, n2, hfin⟩
      · rw [if_neg b1] at hR
        rw [if_neg b2] at hM
        subst hR hM
        refine ⟨?_, n2, hfin⟩
        dsimp only
        rw [w2, nI_clamp (by omega), b5 k (by omega)]
    · rw [if_neg w1, if_neg w2] at hR
      rw [if_neg w3, w4, iteT (show (0 : Int32) = 0 from rfl)] at hM
      subst hR hM
      exact ⟨rfl, hpm, h7⟩
theorem gap_R {n : Int32} {gvn costs lst sets : Nat → Int32} {bst : Int32} {lp lg lz mpr lak : Nat → Int64} {ls mlo : Int64} {lo mal : Int32} {R : Int32 × (Nat → Int64) × (Nat → Nat) × (Nat → Nat) × (Nat → Nat) × (Nat → Nat → Int32) × (Nat → Nat → Int32) × (Nat → Nat → Int64) × Nat × Nat × Nat × Nat × Nat × (Nat → Int64) × (Nat → Int64) × (Nat → Int64) × Int64 × Int32 × Int64 × Int32} {M : Int32 × (Nat → Int32) × (Nat → Int32) × (Nat → Int32) × (Nat → Int32) × Int32 × Int64 × Int32 × (Nat → Int64) × (Nat → Int64)} (hP : nOK P) (hc : cD P H U res dem kin low hig pri sta ups dow onn) (hs : cS P ord flo sro sco) (hm : mD (W 0) P) (ht : tbl con cst) (hpm : perm3 pa pb ps) (h7 : ik = 0 ∨ bestIs (-1000000) P kn) (hR : f_UH_gap kn ik H U res dem kin hig pri ups dow ord flo sro sco con cst cpa sc sz wt tof ton w3 pa ps su ss sk lp lg lz ls lo n (fun j => P ((9 + (8 * j)) + 5)) (fun j => P ((9 + (8 * j)) + 6)) = R) (hM : f_Model_gap W gvn costs lst sets bst mlo mal mpr lak n U H = M) : R.1 = M.1 ∧ perm3 R.2.2.2.2.2.2.2.2.1 pb R.2.2.2.2.2.2.2.2.2.1 ∧ (R.2.2.2.2.2.2.2.2.2.2.2.2.2.2.2.2.2.2.2 = 0 ∨ bestIs (-1000000) P R.2.2.2.2.2.2.2.2.2.2.2.2.2.2.2.2.2.2.1) := by
  have hdc := dayC hP hm hc
  have hln := lnOK_of hP hm hc hs
  have hdd := dem_facts hP hm hc
  have hH : H ≤ 6 := by rw [hc.1]; exact hP.2.1
  have eH : H = P 1 := hc.1
  have eU : U = P 0 := hc.2.1
  unfold f_UH_gap at hR
  unfold f_Model_gap f_Model_in at hM
  rcases hdc with ⟨g1, g2, -⟩ | ⟨g1, g2, -⟩
  · rw [g1, iteF (show ¬ (1 : Int32) = 0 by decide)] at hR
    rw [g2, iteT (show (0 : Int32) = 0 from rfl)] at hM
    subst hR hM
    exact ⟨rfl, hpm, h7⟩
  · rw [g1, iteT (show (0 : Int32) = 0 from rfl)] at hR
    rw [g2, iteF (show ¬ (1 : Int32) = 0 by decide)] at hM
    by_cases d1 : n < 0
    · rw [if_pos d1] at hR
      rw [if_pos d1, iteT (show (0 : Int32) = 0 from rfl)] at hM
      subst hR hM
      exact ⟨rfl, hpm, h7⟩
    by_cases d2 : 12 < n
    · rw [if_neg d1, if_pos d2] at hR
      rw [if_neg d1, if_pos d2, iteT (show (0 : Int32) = 0 from rfl)] at hM
      subst hR hM
      exact ⟨rfl, hpm, h7⟩
    rw [if_neg d1, if_neg d2] at hR
    rw [if_neg d1, if_neg d2, iteF (show ¬ (1 : Int32) = 0 by decide)] at hM
    generalize hq : f_UH_bestNow kn ik H U res dem kin hig pri ord flo sro sco con cst cpa sc sz wt tof ton w3 pa ps su ss sk (fun j => P ((9 + (8 * j)) + 5)) (fun j => P ((9 + (8 * j)) + 6)) = q at hR
    obtain ⟨n1, n2, n3⟩ := bestNow_R hP hc hs ht hpm h7 hq
    have hbc := bestC (gvn := gvn) (costs := costs) (lst := lst) (sets := sets) n1 hm
    rw [← eU, ← eH] at hbc
    generalize f_Model_bestCost W gvn costs lst sets (-1000000) 0 U H = m at hM hbc
    have hfin : q.2.2.2.2.2.2.2.2.2.2.2.2.2.2 = 0 ∨ bestIs (-1000000) P q.2.2.2.2.2.2.2.2.2.2.2.2.2.1 := Or.inr (by rw [n3]; exact n1)
    obtain ⟨m1, -⟩ := moves_eq (lp := lp) (lg := lg) (lz := lz) (ls := ls) (lo := lo) (mlo := mlo) (mal := mal) (mpr := mpr) (lak := lak) (n := n.toNatClampNeg) hH hln (fun h hh => (hdd h hh).2.1.trans (hdd h hh).1.symm)
    generalize f_Lone_movePrices lp lg lz ls lo H U dem kin hig pri ups dow flo sro sco n.toNatClampNeg = v at hR m1
    generalize f_Model_moves W mlo mal mpr lak n.toNatClampNeg U H = w at hM m1
    rw [lt_eq] at hR hM
    rcases hbc with ⟨b1, b2, b3⟩ | ⟨b1, b2, b3, b4, -⟩
    · rw [if_pos b1] at hR
      rw [if_pos b2] at hM
      subst hR hM
      exact ⟨rfl, n2, hfin⟩
    · rw [if_neg b1, lt_eq] at hR
      rw [if_neg b2, lt_eq] at hM
      subst hR hM
      refine ⟨?_, n2, hfin⟩
      dsimp only
      rw [m1, b3, Int64.toInt32_sub, Int32.toInt32_toInt64]
end BST
theorem s_best {G : mG} {h : mHp} {x b : Nat} (I : INV h x b) (wh : Int32) : STP G x b 5 7 mX7_best mX8_best [.int wh] h := by
  obtain ⟨hxb, fin, lf, kn, ik, it, lan, siz, tape, ln, P, K, afi, asz, Z, left, nl, lane, many, items, spare, fp, mat, mst, tok, mval, W, past, imgs, kept, gvn, costs, lst, sets, bst, mlo, mal, mpr, lak, trc, C, M, r1, ⟨r2, r2b⟩, r3, r4, ⟨r5, r5b, r5c⟩, ⟨r6, r6b⟩, r7⟩ := I
  obtain ⟨v0, v1, v2, v3, v4, v5, v6, v7, v8, v9, v10, v11⟩ := id C
  obtain ⟨H, U, res, dem, kin, low, hig, pri, sta, ups, dow, onn, ord, flo, sro, sco, vd, hP, hc, hs⟩ := v3
  have hU : U ≤ 4 := by rw [hc.2.1]; exact hP.1
  have hH : H ≤ 6 := by rw [hc.1]; exact hP.2.1
  have w0 : W 0 0 = nI U := by rw [r3 0 (by omega), hc.2.1]
  have w1 : W 0 1 = nI H := by rw [r3 1 (by omega), hc.1]
  obtain ⟨con, cst, cpa, car, sc, sz, wt, tof, ton, w3, pa, pb, ps, su, ss, sk, vs, ht, hpm⟩ := v9
  obtain ⟨hup, hdn⟩ := puP hP hc
  have k1 := Ret.hyp2 vs v0 (c_UH_best (G := G) (h := h) (wh := wh) vd (by omega) (by omega) (by omega) (by omega) hpm.1 hpm.2.2.1 hU hH hup hdn hs.2.1)
  generalize hR : f_UH_best kn ik H U res dem kin hig pri ord flo sro sco con cst cpa sc sz wt tof ton w3 pa ps su ss sk wh (fun j => P ((9 + (8 * j)) + 5)) (fun j => P ((9 + (8 * j)) + 6)) = R at k1
  have k2 := fun h1 (M1 : isV h1 b (modL b lane many items spare fin tape ln lf fp mat mst tok mval W past asz imgs kept gvn costs lst sets bst mlo mal mpr lak trc nl)) => RetB.hyp M1 (c_Model_best (G := G) (wh := wh) w0 hU w1 hH)
  generalize hM : f_Model_best W gvn costs lst sets bst wh U H = N at k2
  obtain ⟨e, m1, m2⟩ := best_R hP hc hs r3 ht hpm r7 hR hM
  rw [e] at k1
  exact ⟨_, _, _, k1, k2 _ (mV_ov (n := 1) (a := x) rfl (by omega) (mV_ov (n := 21) (a := x + 298) rfl (by omega) M)), ⟨hxb, _, _, _, _, _, _, _, _, _, _, _, _, _, _, _, _, _, _, _, _, _, _, _, _, _, _, _, _, _, _, _, _, _, _, _, _, _, _, _, CI_m hxb (CI_x (CI_s C ht m1)), ov_isV, ⟨r1, ⟨r2, r2b⟩, r3, r4, ⟨r5, r5b, r5c⟩, ⟨r6, r6b⟩, m2⟩⟩⟩
theorem s_gap {G : mG} {h : mHp} {x b : Nat} (I : INV h x b) (n : Int32) : STP G x b 6 7 mX7_gap mX8_gap [.int n] h := by
  obtain ⟨hxb, fin, lf, kn, ik, it, lan, siz, tape, ln, P, K, afi, asz, Z, left, nl, lane, many, items, spare, fp, mat, mst, tok, mval, W, past, imgs, kept, gvn, costs, lst, sets, bst, mlo, mal, mpr, lak, trc, C, M, r1, ⟨r2, r2b⟩, r3, r4, ⟨r5, r5b, r5c⟩, ⟨r6, r6b⟩, r7⟩ := I
  obtain ⟨v0, v1, v2, v3, v4, v5, v6, v7, v8, v9, v10, v11⟩ := id C
  obtain ⟨H, U, res, dem, kin, low, hig, pri, sta, ups, dow, onn, ord, flo, sro, sco, vd, hP, hc, hs⟩ := v3
  have hU : U ≤ 4 := by rw [hc.2.1]; exact hP.1
  have hH : H ≤ 6 := by rw [hc.1]; exact hP.2.1
  have w0 : W 0 0 = nI U := by rw [r3 0 (by omega), hc.2.1]
  have w1 : W 0 1 = nI H := by rw [r3 1 (by omega), hc.1]
  obtain ⟨con, cst, cpa, car, sc, sz, wt, tof, ton, w3, pa, pb, ps, su, ss, sk, vs, ht, hpm⟩ := v9
  obtain ⟨hup, hdn⟩ := puP hP hc
  obtain ⟨lp, lg, lz, ls, lo, vl⟩ := v10
  have k1 := Ret.hyp3 vs vl v0 (c_UH_gap (G := G) (h := h) (n := n) vd (by omega) (by omega) (by omega) (by omega) (by omega) (by omega) (by omega) (by omega) (by omega) hpm.1 hpm.2.2.1 hU hH hup hdn hs.2.1)
  generalize hR : f_UH_gap kn ik H U res dem kin hig pri ups dow ord flo sro sco con cst cpa sc sz wt tof ton w3 pa ps su ss sk lp lg lz ls lo n (fun j => P ((9 + (8 * j)) + 5)) (fun j => P ((9 + (8 * j)) + 6)) = R at k1
  have k2 := fun h1 (M1 : isV h1 b (modL b lane many items spare fin tape ln lf fp mat mst tok mval W past asz imgs kept gvn costs lst sets bst mlo mal mpr lak trc nl)) => RetB.hyp M1 (c_Model_gap (G := G) (n := n) w0 hU w1 hH)
  generalize hM : f_Model_gap W gvn costs lst sets bst mlo mal mpr lak n U H = N at k2
  obtain ⟨e, m1, m2⟩ := gap_R hP hc hs r3 ht hpm r7 hR hM
  rw [e] at k1
  exact ⟨_, _, _, k1, k2 _ (mV_ov (n := 1) (a := x) rfl (by omega) (mV_ov (n := 4) (a := x + 319) rfl (by omega) (mV_ov (n := 21) (a := x + 298) rfl (by omega) M))), ⟨hxb, _, _, _, _, _, _, _, _, _, _, _, _, _, _, _, _, _, _, _, _, _, _, _, _, _, _, _, _, _, _, _, _, _, _, _, _, _, _, _, CI_m hxb (CI_x (CI_l (CI_s C ht m1))), ov_isV, ⟨r1, ⟨r2, r2b⟩, r3, r4, ⟨r5, r5b, r5c⟩, ⟨r6, r6b⟩, m2⟩⟩⟩
