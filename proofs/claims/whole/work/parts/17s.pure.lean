theorem dr_v {m : Nat} (hm : m < 2147483647) : ((lN m / (16 : Int64)) - (lN m / (16 : Int64)) / (40 : Int64) * (40 : Int64)).toInt32 = nI (m / 16 % 40) := by
  have e : lN m / (16 : Int64) = lN (m / 16) := pk_lDiv (b := 16) (by omega) (by omega) (by omega)
  rw [e]
  have e2 : lN (m / 16) - lN (m / 16) / (40 : Int64) * (40 : Int64) = lN (m / 16 % 40) := pk_lRem (b := 40) (by omega) (by omega) (by omega)
  rw [e2, lN_i]
section DRW
variable {P : Nat → Nat} {W : Nat → Nat → Int32} {con cst : Nat → Int32} {cpa car : Nat → Int64} {sc sz wt : Nat → Nat} {tof ton : Nat → Nat → Int32} {w3 : Nat → Nat → Int64} {pa pb ps su ss sk : Nat} {H U : Nat} {res : Int32} {dem kin low hig pri sta ups dow onn : Nat → Int32} {ord : Nat → Nat} {flo sro sco : Nat → Int32} {H2 U2 : Nat} {res2 : Int32} {dem2 kin2 low2 hig2 pri2 sta2 ups2 dow2 onn2 : Nat → Int32} {ord2 : Nat → Nat} {flo2 sro2 sco2 : Nat → Int32}
theorem dw_L {n0 : Nat} {gvn costs lst sets : Nat → Int32} {bst : Int32} {Wv : Nat → Nat → Int32} (hP : nOK P) (h0 : 0 < P 1) (hc : cD P H U res dem kin low hig pri sta ups dow onn) (hs : cS P ord flo sro sco) (ht : tbl con cst) (hpm : perm3 pa pb ps) (hn0 : n0 < 2147483647) (hW : mD (Wv 2) P) : ∀ k, ∀ A, f_UH_drawn_L68 H con cst H U res kin hig pri ord flo sro sco (fun j => P ((9 + (8 * j)) + 5)) (fun j => P ((9 + (8 * j)) + 6)) 0 0 (lN n0) cpa sc sz wt tof ton w3 pa ps su ss sk dem k = A → ∀ N, f_Model_drawn_L69 U H (lN n0) 0 0 Wv gvn costs lst sets bst k = N → A.1 = N.2.1 ∧ A.2.1 = N.2.2.1 ∧ (∃ m, m < 2147483647 ∧ A.2.2.1 = lN m ∧ N.1 = lN m) ∧ perm3 A.2.2.2.2.2.2.2.2.2.2.1 pb A.2.2.2.2.2.2.2.2.2.2.2.1 ∧ (∀ i, i ≠ 2 → N.2.2.2.1 i = Wv i) ∧ ∃ Q : Nat → Nat, nOK Q ∧ cD Q H U res A.2.2.2.2.2.2.2.2.2.2.2.2.2.2.2 kin low hig pri sta ups dow onn ∧ cS Q ord flo sro sco ∧ mD (N.2.2.2.1 2) Q ∧ Q 0 = P 0 ∧ Q 1 = P 1 ∧ ∀ j, 9 ≤ j → Q j = P j := by
  have eH : H = P 1 := hc.1
  have eU : U = P 0 := hc.2.1
  have hH6 : P 1 ≤ 6 := hP.2.1
  intro k
  induction k with
  | zero => intro A hA N hN; subst hA hN; exact ⟨rfl, rfl, ⟨n0, hn0, rfl, rfl⟩, hpm, fun _ _ => rfl, P, hP, hc, hs, hW, rfl, rfl, fun _ _ => rfl⟩
  | succ k ih =>
    intro A hA N hN
    rw [f_UH_drawn_L68] at hA
    rw [f_Model_drawn_L69] at hN
    generalize hB : f_UH_drawn_L68 H con cst H U res kin hig pri ord flo sro sco (fun j => P ((9 + (8 * j)) + 5)) (fun j => P ((9 + (8 * j)) + 6)) 0 0 (lN n0) cpa sc sz wt tof ton w3 pa ps su ss sk dem k = B at hA
    generalize hM : f_Model_drawn_L69 U H (lN n0) 0 0 Wv gvn costs lst sets bst k = M at hN
    obtain ⟨i1, i2, ⟨m, hm, g1, g2⟩, i3, i4, Q, q1, q2, q3, q4, q5, q6, q7⟩ := ih B hB M hM
    unfold f_UH_drawn_L68s at hA
    unfold f_Model_drawn_L69s at hN
    rw [g1] at hA
    rw [g2] at hN
    obtain ⟨m2, hm2, e⟩ := dr_step hm
    have hmod : m2 % H < H := Nat.mod_lt _ (by omega)
    rw [e, dr_ix0 hm2 (by omega) (by omega), dr_v hm2, nI_clamp (show m2 % H < 2147483648 by omega), upd_eq] at hA
    rw [e, dr_ix hm2 (by omega) (by omega), dr_v hm2, nI_clamp (show 3 + m2 % H < 2147483648 by omega)] at hN
    have hv : m2 / 16 % 40 ≤ 60 := by omega
    have k1 := nOK_dem (h := m2 % H) q1 (show m2 % H < Q 1 by omega) hv
    have k2 := cD_dem (h := m2 % H) (v := m2 / 16 % 40) q2 (show m2 % H < Q 1 by omega) q1.2.1
    have k3 := cS_dem (h := m2 % H) (v := m2 / 16 % 40) (by omega) q3
    have k4 : mD ((va_up M.2.2.2.1 2 (upd (M.2.2.2.1 2) (3 + m2 % H) (nI (m2 / 16 % 40)))) 2) (va_up Q (3 + m2 % H) (m2 / 16 % 40)) := by
      intro j hj
      rw [vu_self]
      by_cases e : j = 3 + m2 % H
      · rw [e, pk_us, vu_self]
      · rw [pk_un e, vu_ne e]; exact q4 j hj
    have hb := best_is (lost := -1000000) (wo := -1) (cpa := B.2.2.2.1) (ssc := B.2.2.2.2.1) (ssz := B.2.2.2.2.2.1) (swt := B.2.2.2.2.2.2.1) (tof := B.2.2.2.2.2.2.2.1) (ton := B.2.2.2.2.2.2.2.2.1) (w3 := B.2.2.2.2.2.2.2.2.2.1) (pa := B.2.2.2.2.2.2.2.2.2.2.1) (ps := B.2.2.2.2.2.2.2.2.2.2.2.1) k1 (by decide) k2 k3 ht i3.2.2.2.2.1 (Or.inl ⟨rfl, rfl⟩)
    have zu : (fun j => va_up Q (3 + m2 % H) (m2 / 16 % 40) ((9 + (8 * j)) + 5)) = fun j => P ((9 + (8 * j)) + 5) := by
      funext j; rw [vu_ne (by omega), q7 _ (by omega)]
    have zd : (fun j => va_up Q (3 + m2 % H) (m2 / 16 % 40) ((9 + (8 * j)) + 6)) = fun j => P ((9 + (8 * j)) + 6) := by
      funext j; rw [vu_ne (by omega), q7 _ (by omega)]
    rw [zu, zd] at hb
    have hsw := fb_sw (R := f_Search_findBest con cst B.2.2.2.1 B.2.2.2.2.1 B.2.2.2.2.2.1 B.2.2.2.2.2.2.1 B.2.2.2.2.2.2.2.1 B.2.2.2.2.2.2.2.2.1 B.2.2.2.2.2.2.2.2.2.1 B.2.2.2.2.2.2.2.2.2.2.1 B.2.2.2.2.2.2.2.2.2.2.2.1 H U res (va_up B.2.2.2.2.2.2.2.2.2.2.2.2.2.2.2 (m2 % H) (nI (m2 / 16 % 40))) kin hig pri ord flo sro sco (-1) (fun j => P ((9 + (8 * j)) + 5)) (fun j => P ((9 + (8 * j)) + 6))) rfl
    generalize f_Search_findBest con cst B.2.2.2.1 B.2.2.2.2.1 B.2.2.2.2.2.1 B.2.2.2.2.2.2.1 B.2.2.2.2.2.2.2.1 B.2.2.2.2.2.2.2.2.1 B.2.2.2.2.2.2.2.2.2.1 B.2.2.2.2.2.2.2.2.2.2.1 B.2.2.2.2.2.2.2.2.2.2.2.1 H U res (va_up B.2.2.2.2.2.2.2.2.2.2.2.2.2.2.2 (m2 % H) (nI (m2 / 16 % 40))) kin hig pri ord flo sro sco (-1) (fun j => P ((9 + (8 * j)) + 5)) (fun j => P ((9 + (8 * j)) + 6)) = fb at hA hb hsw
    rw [lt_eq] at hA
    have hbc := bestC (gvn := M.2.2.2.2.1) (costs := M.2.2.2.2.2.1) (lst := M.2.2.2.2.2.2.1) (sets := M.2.2.2.2.2.2.2.1) hb k4
    rw [vu_ne (show (0 : Nat) ≠ 3 + m2 % H by omega), vu_ne (show (1 : Nat) ≠ 3 + m2 % H by omega), q5, q6, ← eU, ← eH] at hbc
    generalize f_Model_bestCost (va_up M.2.2.2.1 2 (upd (M.2.2.2.1 2) (3 + m2 % H) (nI (m2 / 16 % 40)))) M.2.2.2.2.1 M.2.2.2.2.2.1 M.2.2.2.2.2.2.1 M.2.2.2.2.2.2.2.1 (-1000000) 2 U H = mm at hN hbc
    rw [lt_eq] at hN
    subst hA hN
    dsimp only
    refine ⟨?_, ?_, ⟨m2, hm2, rfl, rfl⟩, ?_, ?_, _, k1, k2, k3, k4, ?_, ?_, ?_⟩
    · rcases hbc with ⟨-, b2, b3⟩ | ⟨-, b2, -, b3, -⟩
      · rw [if_pos b2, iteT (show f_Search_costOf fb.1 < 0 by rw [b3]; decide), Int32.add_zero, i1]
      · rw [if_neg b2, if_neg b3, i1]
    · rcases hbc with ⟨-, b2, b3⟩ | ⟨-, b2, b4, b3, -⟩
      · rw [if_pos b2, iteT (show f_Search_costOf fb.1 < 0 by rw [b3]; decide), Int32.add_zero, i2]
      · rw [if_neg b2, if_neg b3, b4, i2]
    · unfold swp at hsw
      unfold perm3 at i3 ⊢
      omega
    · intro i hi
      rw [vu_ne hi]; exact i4 i hi
    · rw [vu_ne (by omega)]; exact q5
    · rw [vu_ne (by omega)]; exact q6
    · intro j hj
      rw [vu_ne (by omega)]; exact q7 j hj
theorem drawn_R {nn sd wh : Int32} {gvn costs lst sets : Nat → Int32} {bst : Int32} {R : Int32 × (Nat → Int64) × (Nat → Nat) × (Nat → Nat) × (Nat → Nat) × (Nat → Nat → Int32) × (Nat → Nat → Int32) × (Nat → Nat → Int64) × Nat × Nat × Nat × Nat × Nat × Nat × Nat × Int32 × (Nat → Int32) × (Nat → Int32) × (Nat → Int32) × (Nat → Int32) × (Nat → Int32) × (Nat → Int32) × (Nat → Int32) × (Nat → Int32) × (Nat → Int32) × (Nat → Nat) × (Nat → Int32) × (Nat → Int32) × (Nat → Int32)} {M : Int32 × (Nat → Nat → Int32) × (Nat → Int32) × (Nat → Int32) × (Nat → Int32) × (Nat → Int32) × Int32} (hP : nOK P) (hc : cD P H U res dem kin low hig pri sta ups dow onn) (hs : cS P ord flo sro sco) (hm : mD (W 0) P) (ht : tbl con cst) (hpm : perm3 pa pb ps) (hH2 : H2 ≤ 6) (hU2 : U2 ≤ 4) (hO2 : ∀ j, j < 4 → ord2 j < 4) (hR : f_UH_drawn H U res dem kin low hig pri sta ups dow onn con cst cpa sc sz wt tof ton w3 pa ps su ss sk H2 U2 res2 dem2 kin2 low2 hig2 pri2 sta2 ups2 dow2 onn2 ord2 flo2 sro2 sco2 nn sd wh (fun j => P ((9 + (8 * j)) + 5)) (fun j => P ((9 + (8 * j)) + 6)) = R) (hM : f_Model_drawn W gvn costs lst sets bst nn sd wh U H = M) : R.1 = M.1 ∧ perm3 R.2.2.2.2.2.2.2.2.1 pb R.2.2.2.2.2.2.2.2.2.1 ∧ (R.2.2.2.2.2.2.2.2.2.2.2.2.2.1 ≤ 6 ∧ R.2.2.2.2.2.2.2.2.2.2.2.2.2.2.1 ≤ 4 ∧ ∀ j, j < 4 → R.2.2.2.2.2.2.2.2.2.2.2.2.2.2.2.2.2.2.2.2.2.2.2.2.2.1 j < 4) ∧ M.2.1 0 = W 0 := by
  have hdc := dayC hP hm hc
  have eH : H = P 1 := hc.1
  have eU : U = P 0 := hc.2.1
  have hH : H ≤ 6 := by rw [eH]; exact hP.2.1
  have hU : U ≤ 4 := by rw [eU]; exact hP.1
  unfold f_UH_drawn at hR
  unfold f_Model_drawn at hM
  rcases hdc with ⟨g1, g2, -⟩ | ⟨g1, g2, g3⟩
  · rw [g1, iteF (show ¬ (1 : Int32) = 0 by decide)] at hR
    rw [g2, iteT (show (0 : Int32) = 0 from rfl)] at hM
    subst hR hM
    exact ⟨rfl, hpm, ⟨hH2, hU2, hO2⟩, rfl⟩
  rw [g1, iteT (show (0 : Int32) = 0 from rfl)] at hR
  rw [g2, iteF (show ¬ (1 : Int32) = 0 by decide)] at hM
  by_cases z1 : nn < 0
  · rw [if_pos z1] at hR
    have e : f_Model_in nn 0 8 = 0 := by unfold f_Model_in; rw [if_pos z1]
    rw [e, iteT (show (0 : Int32) = 0 from rfl)] at hM
    subst hR hM
    exact ⟨rfl, hpm, ⟨hH2, hU2, hO2⟩, rfl⟩
  by_cases z2 : 8 < nn
  · rw [if_neg z1, if_pos z2] at hR
    have e : f_Model_in nn 0 8 = 0 := by unfold f_Model_in; rw [if_neg z1, if_pos z2]
    rw [e, iteT (show (0 : Int32) = 0 from rfl)] at hM
    subst hR hM
    exact ⟨rfl, hpm, ⟨hH2, hU2, hO2⟩, rfl⟩
  rw [if_neg z1, if_neg z2] at hR
  have e2 : f_Model_in nn 0 8 = 1 := by unfold f_Model_in; rw [if_neg z1, if_neg z2]
  rw [e2, iteF (show ¬ (1 : Int32) = 0 by decide)] at hM
  by_cases z3 : sd < 1
  · rw [if_pos z3] at hR
    have e : f_Model_in sd 1 999999 = 0 := by unfold f_Model_in; rw [if_pos z3]
    rw [e, iteT (show (0 : Int32) = 0 from rfl)] at hM
    subst hR hM
    exact ⟨rfl, hpm, ⟨hH2, hU2, hO2⟩, rfl⟩
  by_cases z4 : 999999 < sd
  · rw [if_neg z3, if_pos z4] at hR
    have e : f_Model_in sd 1 999999 = 0 := by unfold f_Model_in; rw [if_neg z3, if_pos z4]
    rw [e, iteT (show (0 : Int32) = 0 from rfl)] at hM
    subst hR hM
    exact ⟨rfl, hpm, ⟨hH2, hU2, hO2⟩, rfl⟩
  rw [if_neg z3, if_neg z4] at hR
  have e4 : f_Model_in sd 1 999999 = 1 := by unfold f_Model_in; rw [if_neg z3, if_neg z4]
  rw [e4, iteF (show ¬ (1 : Int32) = 0 by decide)] at hM
  by_cases z5 : wh < 0
  · rw [if_pos z5] at hR
    have e : f_Model_in wh 0 1 = 0 := by unfold f_Model_in; rw [if_pos z5]
    rw [e, iteT (show (0 : Int32) = 0 from rfl)] at hM
    subst hR hM
    exact ⟨rfl, hpm, ⟨hH2, hU2, hO2⟩, rfl⟩
  by_cases z6 : 1 < wh
  · rw [if_neg z5, if_pos z6] at hR
    have e : f_Model_in wh 0 1 = 0 := by unfold f_Model_in; rw [if_neg z5, if_pos z6]
    rw [e, iteT (show (0 : Int32) = 0 from rfl)] at hM
    subst hR hM
    exact ⟨rfl, hpm, ⟨hH2, hU2, hO2⟩, rfl⟩
  rw [if_neg z5, if_neg z6] at hR
  have e6 : f_Model_in wh 0 1 = 1 := by unfold f_Model_in; rw [if_neg z5, if_neg z6]
  rw [e6, iteF (show ¬ (1 : Int32) = 0 by decide)] at hM
  obtain ⟨ks, hks, rfl⟩ := ge1C_nat (N := 999999) rfl (by decide) z3 z4
  rw [nI_clamp (show ks < 2147483648 by omega), nI_l (by omega)] at hR hM
  generalize nn.toNatClampNeg = n at hR hM
  have kl := cD_like (R := f_Day_becomeLike dem2 kin2 low2 hig2 pri2 sta2 ups2 dow2 onn2 ord2 flo2 sro2 sco2 H U res dem kin low hig pri sta ups dow onn) hP hc hO2 rfl
  generalize f_Day_becomeLike dem2 kin2 low2 hig2 pri2 sta2 ups2 dow2 onn2 ord2 flo2 sro2 sco2 H U res dem kin low hig pri sta ups dow onn = B at hR kl
  obtain ⟨k1, k2⟩ := kl
  have x1 : B.1 = H := k1.1.trans eH.symm
  have x2 : B.2.1 = U := k1.2.1.trans eU.symm
  rw [lt_eq] at hR
  generalize hA : f_UH_drawn_L68 H con cst B.1 B.2.1 B.2.2.1 B.2.2.2.2.1 B.2.2.2.2.2.2.1 B.2.2.2.2.2.2.2.1 B.2.2.2.2.2.2.2.2.2.2.2.2.1 B.2.2.2.2.2.2.2.2.2.2.2.2.2.1 B.2.2.2.2.2.2.2.2.2.2.2.2.2.2.1 B.2.2.2.2.2.2.2.2.2.2.2.2.2.2.2 (fun j => P ((9 + (8 * j)) + 5)) (fun j => P ((9 + (8 * j)) + 6)) (0 : Int32) (0 : Int32) (lN ks) cpa sc sz wt tof ton w3 pa ps su ss sk B.2.2.2.1 n = A at hR
  generalize hN : f_Model_drawn_L69 U H (lN ks) (0 : Int32) (0 : Int32) (va_up W 2 (f_copies (W 0) (W 2) 0 0)) gvn costs lst sets bst n = N at hM
  rw [← x1, ← x2] at hN
  rw [← x1] at hA
  obtain ⟨c1, c2, -, c3, c4, Q, d1, d2, d3, -⟩ := dw_L (P := P) hP g3 k1 k2 ht hpm (show ks < 2147483647 by omega) (fun j hj => by rw [vu_self, copies0 hj]; exact hm j hj) n A hA N hN
  rw [lt_eq] at hM
  rw [lt_eq] at hR
  subst hR hM
  refine ⟨?_, c3, ⟨by dsimp only; omega, by dsimp only; omega, d3.2.1⟩, by dsimp only; rw [c4 0 (by decide), vu_ne (by decide)]⟩
  dsimp only
  rw [c1, c2]
end DRW
theorem s_drawn {G : mG} {h : mHp} {x b : Nat} (I : INV h x b) (n sd wh : Int32) : STP G x b 4 7 mX7_drawn mX8_drawn [.int n, .int sd, .int wh] h := by
  obtain ⟨hxb, fin, lf, kn, ik, it, lan, siz, tape, ln, P, K, afi, asz, Z, left, nl, lane, many, items, spare, fp, mat, mst, tok, mval, W, past, imgs, kept, gvn, costs, lst, sets, bst, mlo, mal, mpr, lak, trc, C, M, r1, ⟨r2, r2b⟩, r3, r4, ⟨r5, r5b, r5c⟩, ⟨r6, r6b⟩, r7⟩ := I
  obtain ⟨v0, v1, v2, v3, v4, v5, v6, v7, v8, v9, v10, v11⟩ := id C
  obtain ⟨H, U, res, dem, kin, low, hig, pri, sta, ups, dow, onn, ord, flo, sro, sco, vd, hP, hc, hs⟩ := v3
  have hU : U ≤ 4 := by rw [hc.2.1]; exact hP.1
  have hH : H ≤ 6 := by rw [hc.1]; exact hP.2.1
  have w0 : W 0 0 = nI U := by rw [r3 0 (by omega), hc.2.1]
  have w1 : W 0 1 = nI H := by rw [r3 1 (by omega), hc.1]
  obtain ⟨con, cst, cpa, car, sc, sz, wt, tof, ton, w3, pa, pb, ps, su, ss, sk, vs, ht, hpm⟩ := v9
  obtain ⟨hup, hdn⟩ := puP hP hc
  obtain ⟨H2, U2, res2, dem2, kin2, low2, hig2, pri2, sta2, ups2, dow2, onn2, ord2, flo2, sro2, sco2, ve, hH2, hU2, hO2⟩ := v4
  have k1 := Ret.hyp2 vs ve (c_UH_drawn (G := G) (h := h) (n := n) (sd := sd) (wh := wh) v0 vd (by omega) (by omega) (by omega) (by omega) (by omega) (by omega) hpm.1 hpm.2.2.1 hU hH hup hdn hs.2.1 hO2)
  generalize hR : f_UH_drawn H U res dem kin low hig pri sta ups dow onn con cst cpa sc sz wt tof ton w3 pa ps su ss sk H2 U2 res2 dem2 kin2 low2 hig2 pri2 sta2 ups2 dow2 onn2 ord2 flo2 sro2 sco2 n sd wh (fun j => P ((9 + (8 * j)) + 5)) (fun j => P ((9 + (8 * j)) + 6)) = R at k1
  have k2 := fun h1 (M1 : isV h1 b (modL b lane many items spare fin tape ln lf fp mat mst tok mval W past asz imgs kept gvn costs lst sets bst mlo mal mpr lak trc nl)) => RetB.hyp M1 (c_Model_drawn (G := G) (n := n) (sd := sd) (wh := wh) w0 hU w1 hH (fun z => by
    have z1 := hP.2.2.1
    have z2 := hc.1
    have z3 := hc.2.1
    omega))
  generalize hM : f_Model_drawn W gvn costs lst sets bst n sd wh U H = N at k2
  obtain ⟨e, m1, ⟨t1, t2, t3⟩, m3⟩ := drawn_R hP hc hs r3 ht hpm hH2 hU2 hO2 hR hM
  rw [e] at k1
  exact ⟨_, _, _, k1, k2 _ (mV_ov (n := 14) (a := x + 29) rfl (by omega) (mV_ov (n := 21) (a := x + 298) rfl (by omega) M)), ⟨hxb, _, _, _, _, _, _, _, _, _, _, _, _, _, _, _, _, _, _, _, _, _, _, _, _, _, _, _, _, _, _, _, _, _, _, _, _, _, _, _, CI_m hxb (CI_e (CI_s C ht m1) t1 t2 t3), ov_isV, ⟨r1, ⟨r2, r2b⟩, by rw [m3]; exact r3, r4, ⟨r5, r5b, r5c⟩, ⟨r6, r6b⟩, r7⟩⟩⟩
