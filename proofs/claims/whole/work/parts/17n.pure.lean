theorem hb_tab : ((List.range 16).all fun x => (List.range 4).all fun u => (List.range 6).all fun h => decide (((((nI x >>> ((nI u) &&& 31)) &&& (1 : Int32)) <<< ((nI h) &&& 31)) = (if f_Model_has (nI x) (nI u) = (0 : Int32) then (0 : Int32) else (1 : Int32) <<< ((nI h) &&& 31))) ∧ (1 : Int32) <<< ((nI h) &&& 31) = nI (2 ^ h))) = true := by decide +kernel
theorem hb_fact {x u h : Nat} (hx : x < 16) (hu : u < 4) (hh : h < 6) : ((((nI x >>> ((nI u) &&& 31)) &&& (1 : Int32)) <<< ((nI h) &&& 31)) = (if f_Model_has (nI x) (nI u) = (0 : Int32) then (0 : Int32) else (1 : Int32) <<< ((nI h) &&& 31))) ∧ (1 : Int32) <<< ((nI h) &&& 31) = nI (2 ^ h) := of_decide_eq_true (List.all_eq_true.mp (List.all_eq_true.mp (List.all_eq_true.mp hb_tab x (List.mem_range.mpr hx)) u (List.mem_range.mpr hu)) h (List.mem_range.mpr hh))
theorem ho_L {kn : Int64} {sets : Nat → Int32} {D H u : Nat} (hD : D < FARn) (hkn : kn = lN D) (hH : H ≤ 6) (hu : u < 4) (h1 : ∀ h, h < H → sets h = f_Search_unitsIn kn (nI h)) : ∀ k, k ≤ H → ∃ s, s < 2 ^ k ∧ f_Search_hoursOf_L5 kn (nI u) 0 k = nI s ∧ f_Model_layBest_L51 sets u 0 k = nI s := by
  intro k
  induction k with
  | zero => intro _; exact ⟨0, by decide, rfl, rfl⟩
  | succ k ih =>
    intro hk
    obtain ⟨s, s1, s2, s3⟩ := ih (by omega)
    have e1 : f_Search_hoursOf_L5 kn (nI u) 0 (k + 1) = f_Search_hoursOf_L5s kn (nI u) k (f_Search_hoursOf_L5 kn (nI u) 0 k) := rfl
    have e2 : f_Model_layBest_L51 sets u 0 (k + 1) = f_Model_layBest_L51s sets u k (f_Model_layBest_L51 sets u 0 k) := rfl
    rw [e1, e2, s2, s3]
    unfold f_Search_hoursOf_L5s f_Model_layBest_L51s
    have ex : f_Search_unitsIn kn (nI k) = nI (D / 2 ^ (4 * (5 - k)) % 16) := by rw [hkn]; exact unitsIn_nat hD (by omega)
    rw [h1 k (by omega), ex]
    obtain ⟨t1, t2⟩ := hb_fact (x := D / 2 ^ (4 * (5 - k)) % 16) (Nat.mod_lt _ (by decide)) hu (show k < 6 by omega)
    rw [t1, t2]
    have h2k : 2 ^ (k + 1) = 2 ^ k + 2 ^ k := by rw [Nat.pow_succ]; omega
    by_cases c : f_Model_has (nI (D / 2 ^ (4 * (5 - k)) % 16)) (nI u) = 0
    · rw [if_pos c, Int32.or_zero]
      exact ⟨s, by omega, rfl, rfl⟩
    · rw [if_neg c, nI_or, (lo_fact (show k < 6 by omega) s1).1]
      exact ⟨s + 2 ^ k, by omega, rfl, rfl⟩
theorem ho_hi {kn : Int64} {H u : Nat} (hu : u < 4) (h2 : ∀ h, H ≤ h → h < 6 → f_Search_unitsIn kn (nI h) = 0) : ∀ m, H + m ≤ 6 → f_Search_hoursOf_L5 kn (nI u) 0 (H + m) = f_Search_hoursOf_L5 kn (nI u) 0 H := by
  intro m
  induction m with
  | zero => intro _; rfl
  | succ m ih =>
    intro hm
    have e1 : f_Search_hoursOf_L5 kn (nI u) 0 (H + (m + 1)) = f_Search_hoursOf_L5s kn (nI u) (H + m) (f_Search_hoursOf_L5 kn (nI u) 0 (H + m)) := rfl
    rw [e1, ih (by omega)]
    unfold f_Search_hoursOf_L5s
    rw [h2 (H + m) (by omega) (by omega)]
    obtain ⟨t1, t2⟩ := hb_fact (x := 0) (by decide) hu (show H + m < 6 by omega)
    rw [show (0 : Int32) = nI 0 from rfl, t1, if_pos ((has0 (by decide) (show u < 31 by omega)).mpr (by unfold bt_; rw [Nat.zero_div]; rfl))]
    exact Int32.or_zero
def layP (P s : Nat → Nat) : Nat → Nat → Nat
  | 0 => P
  | k + 1 => va_up (layP P s k) ((9 + (8 * k)) + 7) (s k)
section LAY_
variable {P : Nat → Nat} {W : Nat → Nat → Int32} {kn : Int64} {ik : Int32} {con cst : Nat → Int32} {cpa : Nat → Int64} {sc sz wt : Nat → Nat} {tof ton : Nat → Nat → Int32} {w3 : Nat → Nat → Int64} {pa pb ps su ss sk : Nat} {H U : Nat} {res : Int32} {dem kin low hig pri sta ups dow onn : Nat → Int32} {ord : Nat → Nat} {flo sro sco : Nat → Int32} {H3 U3 : Nat} {res3 : Int32} {dem3 kin3 low3 hig3 pri3 sta3 ups3 dow3 onn3 : Nat → Int32} {ord3 : Nat → Nat} {flo3 sro3 sco3 : Nat → Int32} {Z : Nat → Nat → Nat} {afi asz : Nat} {past : Nat → Int32}
theorem lay_L {s : Nat → Nat} {sets : Nat → Int32} (hP : nOK P) (hc : cD P H U res dem kin low hig pri sta ups dow onn) (hs : cS P ord flo sro sco) (hm : mD (W 0) P) (h1 : ∀ u, u < P 0 → s u < 2 ^ (P 1) ∧ f_Search_hoursOf kn (nI u) = nI (s u) ∧ f_Model_layBest_L51 sets u 0 H = nI (s u)) : ∀ k, k ≤ P 0 → layP P s k 0 = P 0 ∧ layP P s k 1 = P 1 ∧ nOK (layP P s k) ∧ cD (layP P s k) H U res dem kin low hig pri sta ups dow (f_UH_layBest_L30 kn onn k) ∧ cS (layP P s k) ord flo sro sco ∧ mD (f_Model_layBest_L36 sets H W k 0) (layP P s k) := by
  intro k
  induction k with
  | zero => intro _; exact ⟨rfl, rfl, hP, hc, hs, hm⟩
  | succ k ih =>
    intro hk
    obtain ⟨i0, i1, i2, i3, i4, i5⟩ := ih (by omega)
    obtain ⟨g1, g2, g3⟩ := h1 k (by omega)
    have e1 : f_UH_layBest_L30 kn onn (k + 1) = f_UH_layBest_L30s kn k (f_UH_layBest_L30 kn onn k) := rfl
    have e2 : f_Model_layBest_L36 sets H W (k + 1) = f_Model_layBest_L36s sets H k (f_Model_layBest_L36 sets H W k) := rfl
    have e3 : layP P s (k + 1) = va_up (layP P s k) ((9 + (8 * k)) + 7) (s k) := rfl
    rw [e1, e2, e3]
    unfold f_UH_layBest_L30s f_Model_layBest_L36s
    rw [g2, g3]
    refine ⟨by rw [vu_ne (by omega)]; exact i0, by rw [vu_ne (by omega)]; exact i1, nOK_on i2 (by rw [i0]; omega) (by rw [i1]; exact g1), ?_, cS_on i4, ?_⟩
    · rw [upd_eq]
      exact cD_on i3 (by rw [i1]; exact hP.2.1)
    · rw [vu_self, upd_eq]
      exact mD_up i5
theorem layBest_R {gvn costs lst sets : Nat → Int32} {bst : Int32} {R : Int32 × (Nat → Int64) × (Nat → Nat) × (Nat → Nat) × (Nat → Nat) × (Nat → Nat → Int32) × (Nat → Nat → Int32) × (Nat → Nat → Int64) × Nat × Nat × Nat × Nat × Nat × Nat × Nat × Nat × Nat × Int32 × (Nat → Int32) × (Nat → Int32) × (Nat → Int32) × (Nat → Int32) × (Nat → Int32) × (Nat → Int32) × (Nat → Int32) × (Nat → Int32) × (Nat → Int32) × (Nat → Nat) × (Nat → Int32) × (Nat → Int32) × (Nat → Int32) × (Nat → Int32) × Int64 × Int32} {M : Int32 × (Nat → Nat → Int32) × (Nat → Int32) × Nat × (Nat → Int32) × (Nat → Int32) × (Nat → Int32) × (Nat → Int32) × Int32} (hP : nOK P) (hc : cD P H U res dem kin low hig pri sta ups dow onn) (hs : cS P ord flo sro sco) (hm : mD (W 0) P) (ht : tbl con cst) (hpm : perm3 pa pb ps) (h7 : ik = 0 ∨ bestIs (-1000000) P kn) (hZ : nOK (Z ((FI afi asz + ZS asz) % 16)) ∧ cD (Z ((FI afi asz + ZS asz) % 16)) H3 U3 res3 dem3 kin3 low3 hig3 pri3 sta3 ups3 dow3 onn3 ∧ cS (Z ((FI afi asz + ZS asz) % 16)) ord3 flo3 sro3 sco3) (h5 : afi < 16 ∧ asz ≤ 16 ∧ ∀ i, i < asz → mD (fun j => past (41 * i + j)) (Z ((afi + i) % 16))) (hR : f_UH_layBest kn ik H U res dem kin low hig pri sta ups dow onn ord flo sro sco con cst cpa sc sz wt tof ton w3 pa ps su ss sk afi asz H3 U3 res3 dem3 kin3 low3 hig3 pri3 sta3 ups3 dow3 onn3 ord3 flo3 sro3 sco3 (fun j => P ((9 + (8 * j)) + 5)) (fun j => P ((9 + (8 * j)) + 6)) = R) (hM : f_Model_layBest W past asz gvn costs lst sets bst U H = M) : R.1 = M.1 ∧ perm3 R.2.2.2.2.2.2.2.2.1 pb R.2.2.2.2.2.2.2.2.2.1 ∧ aOK Z ((FI afi asz + ZS asz) % 16) R.2.2.2.2.2.2.2.2.2.2.2.2.2.2.2.2.2.2.2.2.2.2.2.2.2.2.2.2.2.2.2.2.1 M.2.1 M.2.2.1 M.2.2.2.1 H U res dem kin low hig pri sta ups dow R.2.2.2.2.2.2.2.2.2.2.2.2.2.2.2.2.2.2.2.2.2.2.2.2.2.2.2.2.2.2.2.1 ord flo sro sco R.2.2.2.2.2.2.2.2.2.2.2.2.2.2.2.1 R.2.2.2.2.2.2.2.2.2.2.2.2.2.2.2.2.1 R.2.2.2.2.2.2.2.2.2.2.2.2.2.2.2.2.2.1 R.2.2.2.2.2.2.2.2.2.2.2.2.2.2.2.2.2.2.1 R.2.2.2.2.2.2.2.2.2.2.2.2.2.2.2.2.2.2.2.1 R.2.2.2.2.2.2.2.2.2.2.2.2.2.2.2.2.2.2.2.2.1 R.2.2.2.2.2.2.2.2.2.2.2.2.2.2.2.2.2.2.2.2.2.1 R.2.2.2.2.2.2.2.2.2.2.2.2.2.2.2.2.2.2.2.2.2.2.1 R.2.2.2.2.2.2.2.2.2.2.2.2.2.2.2.2.2.2.2.2.2.2.2.1 R.2.2.2.2.2.2.2.2.2.2.2.2.2.2.2.2.2.2.2.2.2.2.2.2.1 R.2.2.2.2.2.2.2.2.2.2.2.2.2.2.2.2.2.2.2.2.2.2.2.2.2.1 R.2.2.2.2.2.2.2.2.2.2.2.2.2.2.2.2.2.2.2.2.2.2.2.2.2.2.1 R.2.2.2.2.2.2.2.2.2.2.2.2.2.2.2.2.2.2.2.2.2.2.2.2.2.2.2.1 R.2.2.2.2.2.2.2.2.2.2.2.2.2.2.2.2.2.2.2.2.2.2.2.2.2.2.2.2.1 R.2.2.2.2.2.2.2.2.2.2.2.2.2.2.2.2.2.2.2.2.2.2.2.2.2.2.2.2.2.1 R.2.2.2.2.2.2.2.2.2.2.2.2.2.2.2.2.2.2.2.2.2.2.2.2.2.2.2.2.2.2.1 R.2.2.2.2.2.2.2.2.2.2.2.2.2.1 R.2.2.2.2.2.2.2.2.2.2.2.2.2.2.1 R.2.2.2.2.2.2.2.2.2.2.2.2.2.2.2.2.2.2.2.2.2.2.2.2.2.2.2.2.2.2.2.2.2 := by
  have hdc := dayC hP hm hc
  have eH : H = P 1 := hc.1
  have eU : U = P 0 := hc.2.1
  have hH : H ≤ 6 := by rw [eH]; exact hP.2.1
  have hU : U ≤ 4 := by rw [eU]; exact hP.1
  unfold f_UH_layBest at hR
  unfold f_Model_layBest at hM
  rcases hdc with ⟨g1, g2, -⟩ | ⟨g1, g2, -⟩
  · rw [g1, iteF (show ¬ (1 : Int32) = 0 by decide)] at hR
    rw [g2, iteT (show (0 : Int32) = 0 from rfl)] at hM
    subst hR hM
    exact ⟨rfl, hpm, aOK_same hP hc hs hZ hm h5 h7⟩
  · rw [g1, iteT (show (0 : Int32) = 0 from rfl)] at hR
    rw [g2, iteF (show ¬ (1 : Int32) = 0 by decide)] at hM
    generalize hq : f_UH_bestNow kn ik H U res dem kin hig pri ord flo sro sco con cst cpa sc sz wt tof ton w3 pa ps su ss sk (fun j => P ((9 + (8 * j)) + 5)) (fun j => P ((9 + (8 * j)) + 6)) = q at hR
    obtain ⟨n1, n2, n3⟩ := bestNow_R hP hc hs ht hpm h7 hq
    have hbc := bestC (gvn := gvn) (costs := costs) (lst := lst) (sets := sets) n1 hm
    rw [← eU, ← eH] at hbc
    generalize f_Model_bestCost W gvn costs lst sets (-1000000) 0 U H = m at hM hbc
    have hfin : q.2.2.2.2.2.2.2.2.2.2.2.2.2.2 = 0 ∨ bestIs (-1000000) P q.2.2.2.2.2.2.2.2.2.2.2.2.2.1 := Or.inr (by rw [n3]; exact n1)
    rw [lt_eq] at hR hM
    rcases hbc with ⟨b1, b2, b3⟩ | ⟨b1, b2, b3, b4, D, b5, b6, b7, b8⟩
    · rw [if_pos b1] at hR
      rw [if_pos b2] at hM
      subst hR hM
      exact ⟨rfl, n2, aOK_same hP hc hs hZ hm h5 hfin⟩
    · rw [if_neg b1] at hR
      rw [if_neg b2] at hM
      generalize hq2 : f_UH_keepForUndo H U res dem kin low hig pri sta ups dow onn afi asz dem3 kin3 low3 hig3 pri3 sta3 ups3 dow3 onn3 ord3 flo3 sro3 sco3 = q2 at hR
      have hall : ∀ u, u < U → ∃ s, s < 2 ^ H ∧ f_Search_hoursOf q.1 (nI u) = nI s ∧ f_Model_layBest_L51 m.2.2.2.2.1 u 0 H = nI s := fun u hu => by
        obtain ⟨s, s1, s2, s3⟩ := ho_L b5 b6 hH (show u < 4 by omega) b7 H (Nat.le_refl _)
        refine ⟨s, s1, ?_, s3⟩
        have := ho_hi (H := H) (show u < 4 by omega) b8 (6 - H) (by omega)
        rw [show H + (6 - H) = 6 by omega] at this
        unfold f_Search_hoursOf
        rw [this, s2]
      have hex : ∃ s : Nat → Nat, ∀ u, u < U → s u < 2 ^ H ∧ f_Search_hoursOf q.1 (nI u) = nI (s u) ∧ f_Model_layBest_L51 m.2.2.2.2.1 u 0 H = nI (s u) := by
        refine ⟨fun u => (f_Search_hoursOf q.1 (nI u)).toNatClampNeg, fun u hu => ?_⟩
        obtain ⟨s, s1, s2, s3⟩ := hall u hu
        have h64 : 2 ^ H ≤ 2 ^ 6 := Nat.pow_le_pow_right (by decide) hH
        have e : (f_Search_hoursOf q.1 (nI u)).toNatClampNeg = s := by rw [s2]; exact nI_clamp (by omega)
        dsimp only
        rw [e]
        exact ⟨s1, s2, s3⟩
      obtain ⟨s, hs1⟩ := hex
      rw [eU] at hs1
      obtain ⟨j0, j1, j2, j3, j4, j5⟩ := lay_L (kn := q.1) (s := s) (sets := m.2.2.2.2.1) hP hc hs hm (fun u hu => by have := hs1 u hu; rw [← eH]; exact this) (P 0) (Nat.le_refl _)
      rw [← eU] at j2 j3 j4 j5
      rw [lt_eq] at hR hM
      subst hR hM
      exact ⟨b3.symm, n2, aOK_keep (W' := f_Model_layBest_L36 m.2.2.2.2.1 H W U) (P' := layP P s U) hP hc hZ.2.2.2.1 hm h5 j2 j3 j4 j5 hq2⟩
end LAY_
theorem s_layBest {G : mG} {h : mHp} {x b : Nat} (I : INV h x b) : STP G x b 5 7 mX7_layBest mX8_layBest [] h := by
  obtain ⟨hxb, fin, lf, kn, ik, it, lan, siz, tape, ln, P, K, afi, asz, Z, left, nl, lane, many, items, spare, fp, mat, mst, tok, mval, W, past, imgs, kept, gvn, costs, lst, sets, bst, mlo, mal, mpr, lak, trc, C, M, r1, ⟨r2, r2b⟩, r3, r4, ⟨r5, r5b, r5c⟩, ⟨r6, r6b⟩, r7⟩ := I
  obtain ⟨v0, v1, v2, v3, v4, v5, v6, v7, v8, v9, v10, v11⟩ := id C
  obtain ⟨H, U, res, dem, kin, low, hig, pri, sta, ups, dow, onn, ord, flo, sro, sco, vd, hP, hc, hs⟩ := v3
  have hU : U ≤ 4 := by rw [hc.2.1]; exact hP.1
  have hH : H ≤ 6 := by rw [hc.1]; exact hP.2.1
  have w0 : W 0 0 = nI U := by rw [r3 0 (by omega), hc.2.1]
  have w1 : W 0 1 = nI H := by rw [r3 1 (by omega), hc.1]
  obtain ⟨con, cst, cpa, car, sc, sz, wt, tof, ton, w3, pa, pb, ps, su, ss, sk, vs, ht, hpm⟩ := v9
  obtain ⟨hup, hdn⟩ := puP hP hc
  have hkk : (FI afi asz + ZS asz) % 16 < 16 := Nat.mod_lt _ (by decide)
  obtain ⟨H3, U3, res3, dem3, kin3, low3, hig3, pri3, sta3, ups3, dow3, onn3, ord3, flo3, sro3, sco3, vk0, hZ⟩ := v8 _ hkk
  have hb1 : x + 74 ≤ KB (x + 72) afi asz := by unfold KB; omega
  have hb2 : KB (x + 72) afi asz + 14 ≤ x + 298 := by unfold KB; omega
  have vk : isV h (KB (x + 72) afi asz) (dayL (KB (x + 72) afi asz) H3 U3 res3 dem3 kin3 low3 hig3 pri3 sta3 ups3 dow3 onn3 ord3 flo3 sro3 sco3) := vk0
  have k1 := Ret.hyp5 vs v7 vk vd v0 (c_UH_layBest (G := G) (h := h) (by omega) (by omega) (by omega) (by omega) (by omega) (by omega) (by omega) (by omega) (by omega) (by omega) (by omega) (by omega) (by omega) (by omega) (by omega) (by omega) (by omega) (by omega) (by omega) (by omega) hpm.1 hpm.2.2.1 hU hH hup hdn hs.2.1 hZ.2.2.2.1 r5 r5b)
  generalize hR : f_UH_layBest kn ik H U res dem kin low hig pri sta ups dow onn ord flo sro sco con cst cpa sc sz wt tof ton w3 pa ps su ss sk afi asz H3 U3 res3 dem3 kin3 low3 hig3 pri3 sta3 ups3 dow3 onn3 ord3 flo3 sro3 sco3 (fun j => P ((9 + (8 * j)) + 5)) (fun j => P ((9 + (8 * j)) + 6)) = R at k1
  have k2 := fun h1 (M1 : isV h1 b (modL b lane many items spare fin tape ln lf fp mat mst tok mval W past asz imgs kept gvn costs lst sets bst mlo mal mpr lak trc nl)) => RetB.hyp M1 (c_Model_layBest (G := G) w0 hU w1 hH r5b)
  generalize hM : f_Model_layBest W past asz gvn costs lst sets bst U H = N at k2
  obtain ⟨e, n1, P', Q', ⟨p1, p2, p3⟩, ⟨q1, q2, q3⟩, m0, m1, m2, m3⟩ := layBest_R hP hc hs r3 ht hpm r7 hZ ⟨r5, r5b, r5c⟩ hR hM
  rw [e] at k1
  rw [m1] at k2
  exact ⟨_, _, _, k1, k2 _ (mV_ov (n := 1) (a := x) rfl (by omega) (mV_ov (n := 14) (a := x + 15) rfl (by omega) (mV_ov (n := 14) (a := KB (x + 72) afi asz) rfl (by omega) (mV_ov (n := 2) (a := x + 72) rfl (by omega) (mV_ov (n := 21) (a := x + 298) rfl (by omega) M))))), ⟨hxb, _, _, _, _, _, _, _, _, _, _, _, _, _, _, _, _, _, _, _, _, _, _, _, _, _, _, _, _, _, _, _, _, _, _, _, _, _, _, _, CI_m hxb (CI_x (CI_d (CI_k (CI_c (CI_s C ht n1)) hkk q1 q2 q3) p1 p2 p3)), ov_isV, ⟨r1, ⟨r2, r2b⟩, m0, r4, m2, ⟨r6, r6b⟩, m3⟩⟩⟩
