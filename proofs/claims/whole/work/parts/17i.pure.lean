theorem day_R {P : Nat → Nat} {asz : Nat} {kn : Int64} {ik lf : Int32} {W : Nat → Nat → Int32} {tape : Nat → Int32} {ln : Nat} {H U : Nat} {res : Int32} {dem kin low hig pri sta ups dow onn : Nat → Int32} {ord : Nat → Nat} {flo sro sco : Nat → Int32} {H2 U2 : Nat} {dem2 kin2 low2 hig2 pri2 sta2 ups2 dow2 onn2 : Nat → Int32} {R : Int32 × Nat × Nat × Int32 × Nat × Nat × Int32 × (Nat → Int32) × (Nat → Int32) × (Nat → Int32) × (Nat → Int32) × (Nat → Int32) × (Nat → Int32) × (Nat → Int32) × (Nat → Int32) × (Nat → Int32) × Nat × Nat × Int32 × (Nat → Int32) × (Nat → Int32) × (Nat → Int32) × (Nat → Int32) × (Nat → Int32) × (Nat → Int32) × (Nat → Int32) × (Nat → Int32) × (Nat → Int32) × (Nat → Nat) × (Nat → Int32) × (Nat → Int32) × (Nat → Int32) × Nat × Int32 × Int32} {M : Int32 × Nat × Int32 × Int32 × Nat × Nat × Int32 × Int32 × (Nat → Nat → Int32) × Nat} (hl : ln ≤ 120) (hby : ∀ i, i < ln → ¬ tape i < 0) (hP : nOK P) (hc : cD P H U res dem kin low hig pri sta ups dow onn) (hs : cS P ord flo sro sco) (hm : mD (W 0) P) (h7 : ik = 0 ∨ bestIs (-1000000) P kn) (hH2 : H2 ≤ 6) (hU2 : U2 ≤ 4)
    (hR : f_UH_day lf ik tape ln H2 U2 dem2 kin2 low2 hig2 pri2 sta2 ups2 dow2 onn2 H U res dem kin low hig pri sta ups dow onn ord flo sro sco asz = R) (hM : f_Model_day tape ln lf W asz = M) :
    R.1 = M.1 ∧ R.2.1 = 0 ∧ M.2.1 = 0 ∧ R.2.2.2.2.2.2.2.2.2.2.2.2.2.2.2.2.2.2.2.2.2.2.2.2.2.2.2.2.2.2.2.2.2.1 = M.2.2.1 ∧ M.2.2.2.2.2.2.2.2.2 = R.2.2.2.2.2.2.2.2.2.2.2.2.2.2.2.2.2.2.2.2.2.2.2.2.2.2.2.2.2.2.2.2.1 ∧ R.2.2.2.2.1 ≤ 6 ∧ R.2.2.2.2.2.1 ≤ 4 ∧ (R.2.2.2.2.2.2.2.2.2.2.2.2.2.2.2.2.2.2.2.2.2.2.2.2.2.2.2.2.2.2.2.2.1 = asz ∨ R.2.2.2.2.2.2.2.2.2.2.2.2.2.2.2.2.2.2.2.2.2.2.2.2.2.2.2.2.2.2.2.2.1 = 0) ∧ ∃ P', (nOK P' ∧ cD P' R.2.2.2.2.2.2.2.2.2.2.2.2.2.2.2.2.1 R.2.2.2.2.2.2.2.2.2.2.2.2.2.2.2.2.2.1 R.2.2.2.2.2.2.2.2.2.2.2.2.2.2.2.2.2.2.1 R.2.2.2.2.2.2.2.2.2.2.2.2.2.2.2.2.2.2.2.1 R.2.2.2.2.2.2.2.2.2.2.2.2.2.2.2.2.2.2.2.2.1 R.2.2.2.2.2.2.2.2.2.2.2.2.2.2.2.2.2.2.2.2.2.1 R.2.2.2.2.2.2.2.2.2.2.2.2.2.2.2.2.2.2.2.2.2.2.1 R.2.2.2.2.2.2.2.2.2.2.2.2.2.2.2.2.2.2.2.2.2.2.2.1 R.2.2.2.2.2.2.2.2.2.2.2.2.2.2.2.2.2.2.2.2.2.2.2.2.1 R.2.2.2.2.2.2.2.2.2.2.2.2.2.2.2.2.2.2.2.2.2.2.2.2.2.1 R.2.2.2.2.2.2.2.2.2.2.2.2.2.2.2.2.2.2.2.2.2.2.2.2.2.2.1 R.2.2.2.2.2.2.2.2.2.2.2.2.2.2.2.2.2.2.2.2.2.2.2.2.2.2.2.1 ∧ cS P' R.2.2.2.2.2.2.2.2.2.2.2.2.2.2.2.2.2.2.2.2.2.2.2.2.2.2.2.2.1 R.2.2.2.2.2.2.2.2.2.2.2.2.2.2.2.2.2.2.2.2.2.2.2.2.2.2.2.2.2.1 R.2.2.2.2.2.2.2.2.2.2.2.2.2.2.2.2.2.2.2.2.2.2.2.2.2.2.2.2.2.2.1 R.2.2.2.2.2.2.2.2.2.2.2.2.2.2.2.2.2.2.2.2.2.2.2.2.2.2.2.2.2.2.2.1) ∧ mD (M.2.2.2.2.2.2.2.2.1 0) P' ∧ (R.2.2.2.2.2.2.2.2.2.2.2.2.2.2.2.2.2.2.2.2.2.2.2.2.2.2.2.2.2.2.2.2.2.2 = 0 ∨ bestIs (-1000000) P' kn) := by
  have hpost := readInto_post (by_ := tape) (H := H2) (U := U2) (dem := dem2) (kin := kin2) (low := low2) (hig := hig2) (pri := pri2) (sta := sta2) (ups := ups2) (dow := dow2) (onn := onn2) hl hH2 hU2
  unfold f_UH_day at hR
  generalize hq : f_Tape_readInto tape ln H2 U2 dem2 kin2 low2 hig2 pri2 sta2 ups2 dow2 onn2 = q at hR hpost
  obtain ⟨m0, m1⟩ := readInto_R hl hby hq hM
  rw [lt_eq] at hR
  rcases m1 with ⟨c1, c2, c3, c4, c5⟩ | ⟨c1, c2, P', c3, c4, c5, c6, c7⟩
  · rw [if_neg c1] at hR
    subst hR
    dsimp only
    exact ⟨c3.symm, rfl, m0, c2.symm, c5, hpost.1, hpost.2, Or.inl rfl, P, ⟨hP, hc, hs⟩, by rw [c4]; exact hm, h7⟩
  · rw [if_pos c1] at hR
    have k := cD_like (R := f_Day_becomeLike dem kin low hig pri sta ups dow onn ord flo sro sco q.1 q.2.1 q.2.2.1 q.2.2.2.1 q.2.2.2.2.1 q.2.2.2.2.2.1 q.2.2.2.2.2.2.1 q.2.2.2.2.2.2.2.1 q.2.2.2.2.2.2.2.2.1 q.2.2.2.2.2.2.2.2.2.1 q.2.2.2.2.2.2.2.2.2.2.1 q.2.2.2.2.2.2.2.2.2.2.2.1) c3 c5 hs.2.1 rfl
    generalize f_Day_becomeLike dem kin low hig pri sta ups dow onn ord flo sro sco q.1 q.2.1 q.2.2.1 q.2.2.2.1 q.2.2.2.2.1 q.2.2.2.2.2.1 q.2.2.2.2.2.2.1 q.2.2.2.2.2.2.2.1 q.2.2.2.2.2.2.2.2.1 q.2.2.2.2.2.2.2.2.2.1 q.2.2.2.2.2.2.2.2.2.2.1 q.2.2.2.2.2.2.2.2.2.2.2.1 = B at hR k
    rw [lt_eq, lt_eq] at hR
    subst hR
    dsimp only
    have e1 : B.2.1 = q.2.1 := k.1.2.1.trans c5.2.1.symm
    exact ⟨by rw [c6, e1], rfl, m0, c2.symm, c7, hpost.1, hpost.2, Or.inr rfl, P', ⟨c3, k.1, k.2⟩, c4, Or.inl rfl⟩
theorem s_day {G : mG} {h : mHp} {x b : Nat} (I : INV h x b) : STP G x b 5 6 mX7_day mX8_day [] h := by
  obtain ⟨hxb, fin, lf, kn, ik, it, lan, siz, tape, ln, P, K, afi, asz, Z, left, nl, lane, many, items, spare, fp, mat, mst, tok, mval, W, past, imgs, kept, gvn, costs, lst, sets, bst, mlo, mal, mpr, lak, trc, C, M, r1, ⟨r2, r2b⟩, r3, r4, ⟨r5, r5b, r5c⟩, ⟨r6, r6b⟩, r7⟩ := I
  obtain ⟨v0, v1, v2, v3, v4, v5, v6, v7, v8, v9, v10, v11⟩ := id C
  obtain ⟨H, U, res, dem, kin, low, hig, pri, sta, ups, dow, onn, ord, flo, sro, sco, vd, hP, hc, hs⟩ := v3
  have hU : U ≤ 4 := by rw [hc.2.1]; exact hP.1
  have hH : H ≤ 6 := by rw [hc.1]; exact hP.2.1
  have w0 : W 0 0 = nI U := by rw [r3 0 (by omega), hc.2.1]
  have w1 : W 0 1 = nI H := by rw [r3 1 (by omega), hc.1]
  obtain ⟨at_, fl, vt⟩ := v2
  obtain ⟨H2, U2, res2, dem2, kin2, low2, hig2, pri2, sta2, ups2, dow2, onn2, ord2, flo2, sro2, sco2, ve, hH2, hU2, hO2⟩ := v4
  have k1 := Ret.hyp5 vt ve vd v7 v0 (c_UH_day (G := G) (h := h) (by omega) (by omega) (by omega) (by omega) (by omega) (by omega) (by omega) (by omega) (by omega) (by omega) (by omega) (by omega) (by omega) (by omega) (by omega) (by omega) (by omega) (by omega) (by omega) (by omega) r2 hH2 hU2 hs.2.1)
  generalize hR : f_UH_day lf ik tape ln H2 U2 dem2 kin2 low2 hig2 pri2 sta2 ups2 dow2 onn2 H U res dem kin low hig pri sta ups dow onn ord flo sro sco asz = R at k1
  have k2 := fun h1 (M1 : isV h1 b (modL b lane many items spare fin tape ln lf fp mat mst tok mval W past asz imgs kept gvn costs lst sets bst mlo mal mpr lak trc nl)) => RetB.hyp M1 (c_Model_day (G := G) r2)
  generalize hM : f_Model_day tape ln lf W asz = N at k2
  obtain ⟨e, n1, n2, n3, n4, n5, n6, n7, P', ⟨p1, p2, p3⟩, m0, m3⟩ := day_R r2 r2b hP hc hs r3 r7 hH2 hU2 hR hM
  rw [e, n1, n3] at k1
  rw [n2, n4] at k2
  exact ⟨_, _, _, k1, k2 _ (mV_ov (n := 1) (a := x) rfl (by omega) (mV_ov (n := 2) (a := x + 72) rfl (by omega) (mV_ov (n := 14) (a := x + 15) rfl (by omega) (mV_ov (n := 14) (a := x + 29) rfl (by omega) (mV_ov (n := 2) (a := x + 13) rfl (by omega) M))))), ⟨hxb, _, _, _, _, _, _, _, _, _, _, _, _, _, _, _, _, _, _, _, _, _, _, _, _, _, _, _, _, _, _, _, _, _, _, _, _, _, _, _, CI_m hxb (CI_x (CI_c (CI_d (CI_e (CI_t C) n5 n6 hO2) p1 p2 p3))), ov_isV, ⟨r1, ⟨Nat.zero_le _, fun i hi => absurd hi (Nat.not_lt_zero _)⟩, m0, r4, ⟨r5, by omega, fun i hi => r5c i (by omega)⟩, ⟨r6, r6b⟩, m3⟩⟩⟩
