section UIR
variable {P Q : Nat → Nat} {Z : Nat → Nat → Nat} {afi asz : Nat} {kn : Int64} {ik : Int32} {W : Nat → Nat → Int32} {past imgs kept : Nat → Int32} {H U : Nat} {res : Int32} {dem kin low hig pri sta ups dow onn : Nat → Int32} {ord : Nat → Nat} {flo sro sco : Nat → Int32} {H3 U3 : Nat} {res3 : Int32} {dem3 kin3 low3 hig3 pri3 sta3 ups3 dow3 onn3 : Nat → Int32} {ord3 : Nat → Nat} {flo3 sro3 sco3 : Nat → Int32}
theorem undo_R {R : Int32 × Nat × Nat × Nat × Int32 × (Nat → Int32) × (Nat → Int32) × (Nat → Int32) × (Nat → Int32) × (Nat → Int32) × (Nat → Int32) × (Nat → Int32) × (Nat → Int32) × (Nat → Int32) × (Nat → Nat) × (Nat → Int32) × (Nat → Int32) × (Nat → Int32) × Int32} {M : Int32 × (Nat → Nat → Int32) × Nat} (hP : nOK P) (hc : cD P H U res dem kin low hig pri sta ups dow onn) (hs : cS P ord flo sro sco) (hZ : nOK (Z ((afi + (asz - 1)) % 16)) ∧ cD (Z ((afi + (asz - 1)) % 16)) H3 U3 res3 dem3 kin3 low3 hig3 pri3 sta3 ups3 dow3 onn3 ∧ cS (Z ((afi + (asz - 1)) % 16)) ord3 flo3 sro3 sco3) (hm : mD (W 0) P) (h2 : asz ≤ 16) (h5 : ∀ i, i < asz → mD (fun j => past (41 * i + j)) (Z ((afi + i) % 16))) (h7 : ik = 0 ∨ bestIs (-1000000) P kn)
    (hR : f_UH_undo ik H U res dem kin low hig pri sta ups dow onn ord flo sro sco asz H3 U3 res3 dem3 kin3 low3 hig3 pri3 sta3 ups3 dow3 onn3 = R) (hM : f_Model_undo W past asz = M) :
    R.1 = M.1 ∧ M.2.2 = R.2.1 ∧ R.2.1 ≤ asz ∧ ∃ P', (nOK P' ∧ cD P' R.2.2.1 R.2.2.2.1 R.2.2.2.2.1 R.2.2.2.2.2.1 R.2.2.2.2.2.2.1 R.2.2.2.2.2.2.2.1 R.2.2.2.2.2.2.2.2.1 R.2.2.2.2.2.2.2.2.2.1 R.2.2.2.2.2.2.2.2.2.2.1 R.2.2.2.2.2.2.2.2.2.2.2.1 R.2.2.2.2.2.2.2.2.2.2.2.2.1 R.2.2.2.2.2.2.2.2.2.2.2.2.2.1 ∧ cS P' R.2.2.2.2.2.2.2.2.2.2.2.2.2.2.1 R.2.2.2.2.2.2.2.2.2.2.2.2.2.2.2.1 R.2.2.2.2.2.2.2.2.2.2.2.2.2.2.2.2.1 R.2.2.2.2.2.2.2.2.2.2.2.2.2.2.2.2.2.1) ∧ mD (M.2.1 0) P' ∧ (R.2.2.2.2.2.2.2.2.2.2.2.2.2.2.2.2.2.2 = 0 ∨ bestIs (-1000000) P' kn) := by
  unfold f_UH_undo at hR
  unfold f_Model_undo at hM
  by_cases c : asz = 0
  · subst c
    rw [iteT (show nI 0 = (0 : Int32) from rfl)] at hR hM
    subst hR hM
    exact ⟨rfl, rfl, Nat.le_refl _, P, ⟨hP, hc, hs⟩, hm, h7⟩
  · have cn : ¬ nI asz = (0 : Int32) := fun z => c ((nI_eq (b := 0) (by omega) (by omega)).mp z)
    rw [iteF cn] at hR hM
    have k := cD_like (R := f_Day_becomeLike dem kin low hig pri sta ups dow onn ord flo sro sco H3 U3 res3 dem3 kin3 low3 hig3 pri3 sta3 ups3 dow3 onn3) hZ.1 hZ.2.1 hs.2.1 rfl
    unfold f_Acts_takeBack at hR
    generalize f_Day_becomeLike dem kin low hig pri sta ups dow onn ord flo sro sco H3 U3 res3 dem3 kin3 low3 hig3 pri3 sta3 ups3 dow3 onn3 = B at hR k
    rw [lt_eq, lt_eq] at hR
    subst hR hM
    dsimp only
    refine ⟨rfl, rfl, by omega, Z ((afi + (asz - 1)) % 16), ⟨hZ.1, k.1, k.2⟩, ?_, Or.inl rfl⟩
    intro j hj
    rw [vu_self, copies_eq, if_pos (by omega), Nat.sub_zero]
    exact h5 (asz - 1) (by omega) j hj
theorem image_R {k0 : Nat} {K : Nat → Nat → Nat} {R : Int32 × Nat × Nat × Int32 × (Nat → Int32) × (Nat → Int32) × (Nat → Int32) × (Nat → Int32) × (Nat → Int32) × (Nat → Int32) × (Nat → Int32) × (Nat → Int32) × (Nat → Int32) × (Nat → Nat) × (Nat → Int32) × (Nat → Int32) × (Nat → Int32)} {M : Int32 × (Nat → Int32) × (Nat → Int32)} (hk : k0 < 2) (hP : nOK P) (hc : cD P H U res dem kin low hig pri sta ups dow onn) (hs : cS P ord flo sro sco) (hZ : nOK (K k0) ∧ cD (K k0) H3 U3 res3 dem3 kin3 low3 hig3 pri3 sta3 ups3 dow3 onn3 ∧ cS (K k0) ord3 flo3 sro3 sco3) (hm : mD (W 0) P) (r4 : ∀ k, k < 2 → (kept k = 0 ∧ K k 1 = 0) ∨ (¬ kept k = 0 ∧ ¬ K k 1 = 0 ∧ mD (fun i => imgs (41 * k + i)) (K k)))
    (hR : f_UH_imageOk H U res dem kin low hig pri sta ups dow onn H3 U3 res3 dem3 kin3 low3 hig3 pri3 sta3 ups3 dow3 onn3 ord3 flo3 sro3 sco3 = R) (hM : f_Model_image W imgs kept (nI k0) = M) :
    R.1 = M.1 ∧ ∃ Q, (nOK Q ∧ cD Q R.2.1 R.2.2.1 R.2.2.2.1 R.2.2.2.2.1 R.2.2.2.2.2.1 R.2.2.2.2.2.2.1 R.2.2.2.2.2.2.2.1 R.2.2.2.2.2.2.2.2.1 R.2.2.2.2.2.2.2.2.2.1 R.2.2.2.2.2.2.2.2.2.2.1 R.2.2.2.2.2.2.2.2.2.2.2.1 R.2.2.2.2.2.2.2.2.2.2.2.2.1 ∧ cS Q R.2.2.2.2.2.2.2.2.2.2.2.2.2.1 R.2.2.2.2.2.2.2.2.2.2.2.2.2.2.1 R.2.2.2.2.2.2.2.2.2.2.2.2.2.2.2.1 R.2.2.2.2.2.2.2.2.2.2.2.2.2.2.2.2) ∧ ∀ k, k < 2 → (M.2.2 k = 0 ∧ va_up K k0 Q k 1 = 0) ∨ (¬ M.2.2 k = 0 ∧ ¬ va_up K k0 Q k 1 = 0 ∧ mD (fun i => M.2.1 (41 * k + i)) (va_up K k0 Q k)) := by
  have hdc := dayC hP hm hc
  unfold f_UH_imageOk at hR
  unfold f_Model_image f_Model_in at hM
  rw [iteF (nI_nneg (show k0 < 2 ^ 31 by omega)), iteF (show ¬ (1 : Int32) < nI k0 from nI_nlt (a := 1) (by omega) (by omega)), iteF (show ¬ (1 : Int32) = 0 by decide), nI_clamp (by omega)] at hM
  rcases hdc with ⟨g1, g2, g3⟩ | ⟨g1, g2, g3⟩
  · rw [g1, iteF (show ¬ (1 : Int32) = 0 by decide)] at hR
    rw [g2, iteT (show (0 : Int32) = 0 from rfl)] at hM
    subst hR hM
    refine ⟨rfl, K k0, hZ, ?_⟩
    rw [vu_id]
    exact r4
  · rw [g1, iteT (show (0 : Int32) = 0 from rfl)] at hR
    rw [g2, iteF (show ¬ (1 : Int32) = 0 by decide)] at hM
    have k := cD_like (R := f_Day_becomeLike dem3 kin3 low3 hig3 pri3 sta3 ups3 dow3 onn3 ord3 flo3 sro3 sco3 H U res dem kin low hig pri sta ups dow onn) hP hc hZ.2.2.2.1 rfl
    generalize f_Day_becomeLike dem3 kin3 low3 hig3 pri3 sta3 ups3 dow3 onn3 ord3 flo3 sro3 sco3 H U res dem kin low hig pri sta ups dow onn = B at hR k
    rw [lt_eq] at hR
    subst hR hM
    dsimp only
    refine ⟨rfl, P, ⟨hP, k.1, k.2⟩, fun j hj => ?_⟩
    by_cases c : j = k0
    · subst c
      refine Or.inr ⟨by rw [pk_us]; decide, by rw [vu_self]; omega, fun i hi => ?_⟩
      rw [vu_self]
      show f_copies (W 0) imgs 0 (41 * j) (41 * j + i) = _
      rw [copies_eq, if_pos (by omega), show 0 + (41 * j + i - 41 * j) = i by omega]
      exact hm i hi
    · rw [pk_un c, vu_ne c]
      rcases r4 j hj with z | ⟨z1, z2, z3⟩
      · exact Or.inl z
      · refine Or.inr ⟨z1, z2, fun i hi => ?_⟩
        show f_copies (W 0) imgs 0 (41 * k0) (41 * j + i) = _
        rw [copies_eq, if_neg (by omega)]
        exact z3 i hi
theorem restore_R {k0 : Nat} {K : Nat → Nat → Nat} {R : Int32 × Nat × Nat × Int32 × (Nat → Int32) × (Nat → Int32) × (Nat → Int32) × (Nat → Int32) × (Nat → Int32) × (Nat → Int32) × (Nat → Int32) × (Nat → Int32) × (Nat → Int32) × (Nat → Nat) × (Nat → Int32) × (Nat → Int32) × (Nat → Int32) × Nat × Int32} {M : Int32 × (Nat → Nat → Int32) × Nat} (hk : k0 < 2) (hP : nOK P) (hc : cD P H U res dem kin low hig pri sta ups dow onn) (hs : cS P ord flo sro sco) (hZ : nOK (K k0) ∧ cD (K k0) H3 U3 res3 dem3 kin3 low3 hig3 pri3 sta3 ups3 dow3 onn3 ∧ cS (K k0) ord3 flo3 sro3 sco3) (hm : mD (W 0) P) (r4 : ∀ k, k < 2 → (kept k = 0 ∧ K k 1 = 0) ∨ (¬ kept k = 0 ∧ ¬ K k 1 = 0 ∧ mD (fun i => imgs (41 * k + i)) (K k))) (h7 : ik = 0 ∨ bestIs (-1000000) P kn)
    (hR : f_UH_restoreOk ik H U res dem kin low hig pri sta ups dow onn ord flo sro sco asz H3 U3 res3 dem3 kin3 low3 hig3 pri3 sta3 ups3 dow3 onn3 = R) (hM : f_Model_restore W asz imgs kept (nI k0) = M) :
    R.1 = M.1 ∧ M.2.2 = R.2.2.2.2.2.2.2.2.2.2.2.2.2.2.2.2.2.1 ∧ (R.2.2.2.2.2.2.2.2.2.2.2.2.2.2.2.2.2.1 = asz ∨ R.2.2.2.2.2.2.2.2.2.2.2.2.2.2.2.2.2.1 = 0) ∧ ∃ P', (nOK P' ∧ cD P' R.2.1 R.2.2.1 R.2.2.2.1 R.2.2.2.2.1 R.2.2.2.2.2.1 R.2.2.2.2.2.2.1 R.2.2.2.2.2.2.2.1 R.2.2.2.2.2.2.2.2.1 R.2.2.2.2.2.2.2.2.2.1 R.2.2.2.2.2.2.2.2.2.2.1 R.2.2.2.2.2.2.2.2.2.2.2.1 R.2.2.2.2.2.2.2.2.2.2.2.2.1 ∧ cS P' R.2.2.2.2.2.2.2.2.2.2.2.2.2.1 R.2.2.2.2.2.2.2.2.2.2.2.2.2.2.1 R.2.2.2.2.2.2.2.2.2.2.2.2.2.2.2.1 R.2.2.2.2.2.2.2.2.2.2.2.2.2.2.2.2.1) ∧ mD (M.2.1 0) P' ∧ (R.2.2.2.2.2.2.2.2.2.2.2.2.2.2.2.2.2.2 = 0 ∨ bestIs (-1000000) P' kn) := by
  unfold f_UH_restoreOk at hR
  unfold f_Model_restore f_Model_in at hM
  rw [iteF (nI_nneg (show k0 < 2 ^ 31 by omega)), iteF (show ¬ (1 : Int32) < nI k0 from nI_nlt (a := 1) (by omega) (by omega)), iteF (show ¬ (1 : Int32) = 0 by decide), nI_clamp (by omega)] at hM
  have hH3 : H3 = K k0 1 := hZ.2.1.1
  have hle : K k0 1 ≤ 6 := hZ.1.2.1
  rcases r4 k0 hk with ⟨z1, z2⟩ | ⟨z1, z2, z3⟩
  · rw [iteT (show nI H3 = (0 : Int32) by rw [hH3, z2]; rfl)] at hR
    rw [iteT z1] at hM
    subst hR hM
    exact ⟨rfl, rfl, Or.inl rfl, P, ⟨hP, hc, hs⟩, hm, h7⟩
  · rw [iteF (show ¬ nI H3 = (0 : Int32) from fun z => by rw [hH3] at z; exact z2 ((nI_eq (b := 0) (by omega) (by omega)).mp z))] at hR
    rw [iteF z1] at hM
    have k := cD_like (R := f_Day_becomeLike dem kin low hig pri sta ups dow onn ord flo sro sco H3 U3 res3 dem3 kin3 low3 hig3 pri3 sta3 ups3 dow3 onn3) hZ.1 hZ.2.1 hs.2.1 rfl
    generalize f_Day_becomeLike dem kin low hig pri sta ups dow onn ord flo sro sco H3 U3 res3 dem3 kin3 low3 hig3 pri3 sta3 ups3 dow3 onn3 = B at hR k
    rw [lt_eq, lt_eq] at hR
    subst hR hM
    dsimp only
    refine ⟨rfl, rfl, Or.inr rfl, K k0, ⟨hZ.1, k.1, k.2⟩, ?_, Or.inl rfl⟩
    intro j hj
    rw [vu_self, copies_eq, if_pos (by omega), Nat.sub_zero]
    exact z3 j hj
end UIR
theorem s_undo {G : mG} {h : mHp} {x b : Nat} (I : INV h x b)  : STP G x b 4 1 mX7_undo mX8_undo [] h := by
  obtain ⟨hxb, fin, lf, kn, ik, it, lan, siz, tape, ln, P, K, afi, asz, Z, left, nl, lane, many, items, spare, fp, mat, mst, tok, mval, W, past, imgs, kept, gvn, costs, lst, sets, bst, mlo, mal, mpr, lak, trc, C, M, r1, ⟨r2, r2b⟩, r3, r4, ⟨r5, r5b, r5c⟩, ⟨r6, r6b⟩, r7⟩ := I
  obtain ⟨v0, v1, v2, v3, v4, v5, v6, v7, v8, v9, v10, v11⟩ := id C
  obtain ⟨H, U, res, dem, kin, low, hig, pri, sta, ups, dow, onn, ord, flo, sro, sco, vd, hP, hc, hs⟩ := v3
  have hU : U ≤ 4 := by rw [hc.2.1]; exact hP.1
  have hH : H ≤ 6 := by rw [hc.1]; exact hP.2.1
  have w0 : W 0 0 = nI U := by rw [r3 0 (by omega), hc.2.1]
  have w1 : W 0 1 = nI H := by rw [r3 1 (by omega), hc.1]
  have hkk : (afi + (asz - 1)) % 16 < 16 := Nat.mod_lt _ (by decide)
  obtain ⟨H3, U3, res3, dem3, kin3, low3, hig3, pri3, sta3, ups3, dow3, onn3, ord3, flo3, sro3, sco3, vk, hZ⟩ := v8 _ hkk
  have hU3 : U3 ≤ 4 := by rw [hZ.2.1.2.1]; exact hZ.1.1
  have k1 := Ret.hyp3 v7 vd v0 (c_UH_undo (G := G) (h := h) vk (by omega) (by omega) (by omega) (by omega) (by omega) (by omega) (by omega) (by omega) (by omega) hU3 hs.2.1 r5 r5b)
  generalize hR : f_UH_undo ik H U res dem kin low hig pri sta ups dow onn ord flo sro sco asz H3 U3 res3 dem3 kin3 low3 hig3 pri3 sta3 ups3 dow3 onn3 = R at k1
  have k2 := fun h1 (M1 : isV h1 b (modL b lane many items spare fin tape ln lf fp mat mst tok mval W past asz imgs kept gvn costs lst sets bst mlo mal mpr lak trc nl)) => RetB.hyp M1 (c_Model_undo (G := G) r5b)
  generalize hM : f_Model_undo W past asz = N at k2
  obtain ⟨e, m1, m2, P', ⟨p1, p2, p3⟩, m0, m3⟩ := undo_R hP hc hs hZ r3 r5b r5c r7 hR hM
  rw [e] at k1
  rw [m1] at k2
  exact ⟨_, _, _, k1, k2 _ (mV_ov (n := 1) (a := x) rfl (by omega) (mV_ov (n := 14) (a := x + 15) rfl (by omega) (mV_ov (n := 2) (a := x + 72) rfl (by omega) M))), ⟨hxb, _, _, _, _, _, _, _, _, _, _, _, _, _, _, _, _, _, _, _, _, _, _, _, _, _, _, _, _, _, _, _, _, _, _, _, _, _, _, _, CI_m hxb (CI_x (CI_d (CI_c C) p1 p2 p3)), ov_isV, ⟨r1, ⟨r2, r2b⟩, m0, r4, ⟨r5, by omega, fun i hi => r5c i (by omega)⟩, ⟨r6, r6b⟩, m3⟩⟩⟩
theorem in2 {k : Int32} (h : k < 0 ∨ ¬ k < nI 2) : k < 0 ∨ ¬ k < 2 := h
theorem s_image {G : mG} {h : mHp} {x b : Nat} (I : INV h x b) (k : Int32) : STP G x b 3 1 mX7_image mX8_image [.int k] h ∨ STP G x b 0 1 mX7_image mX8_image [.int k] h := by
  obtain ⟨hxb, fin, lf, kn, ik, it, lan, siz, tape, ln, P, K, afi, asz, Z, left, nl, lane, many, items, spare, fp, mat, mst, tok, mval, W, past, imgs, kept, gvn, costs, lst, sets, bst, mlo, mal, mpr, lak, trc, C, M, r1, ⟨r2, r2b⟩, r3, r4, ⟨r5, r5b, r5c⟩, ⟨r6, r6b⟩, r7⟩ := I
  obtain ⟨v0, v1, v2, v3, v4, v5, v6, v7, v8, v9, v10, v11⟩ := id C
  obtain ⟨H, U, res, dem, kin, low, hig, pri, sta, ups, dow, onn, ord, flo, sro, sco, vd, hP, hc, hs⟩ := v3
  have hU : U ≤ 4 := by rw [hc.2.1]; exact hP.1
  have hH : H ≤ 6 := by rw [hc.1]; exact hP.2.1
  have w0 : W 0 0 = nI U := by rw [r3 0 (by omega), hc.2.1]
  have w1 : W 0 1 = nI H := by rw [r3 1 (by omega), hc.1]
  rcases inC (v := k) (N := 2) (by omega) with ⟨k0, hk, rfl, -⟩ | ⟨q1, q2⟩
  · left
    obtain ⟨H3, U3, res3, dem3, kin3, low3, hig3, pri3, sta3, ups3, dow3, onn3, ord3, flo3, sro3, sco3, vk, hZ⟩ := v6 _ hk
    have k1 := Ret.hyp vk (c_UH_imageOk (G := G) (h := h) (k0 := k0) v0 vd v5 (by omega) (by omega) (by omega) hU hZ.2.2.2.1 hk)
    generalize hR : f_UH_imageOk H U res dem kin low hig pri sta ups dow onn H3 U3 res3 dem3 kin3 low3 hig3 pri3 sta3 ups3 dow3 onn3 ord3 flo3 sro3 sco3 = R at k1
    have k2 := fun h1 (M1 : isV h1 b (modL b lane many items spare fin tape ln lf fp mat mst tok mval W past asz imgs kept gvn costs lst sets bst mlo mal mpr lak trc nl)) => RetB.hyp M1 (c_Model_image (G := G) (k := nI k0))
    generalize hM : f_Model_image W imgs kept (nI k0) = N at k2
    obtain ⟨e, Q, ⟨p1, p2, p3⟩, m0⟩ := image_R hk hP hc hs hZ r3 r4 hR hM
    rw [e] at k1
    exact ⟨_, _, _, k1, k2 _ (mV_ov (n := 14) (a := x + 43 + (1 + 14 * k0)) rfl (by omega) M), ⟨hxb, _, _, _, _, _, _, _, _, _, _, _, _, _, _, _, _, _, _, _, _, _, _, _, _, _, _, _, _, _, _, _, _, _, _, _, _, _, _, _, CI_m hxb (CI_g C hk p1 p2 p3), ov_isV, ⟨r1, ⟨r2, r2b⟩, r3, m0, ⟨r5, r5b, r5c⟩, ⟨r6, r6b⟩, r7⟩⟩⟩
  · right
    have k2 := RetB.hyp M (c_Model_image (G := G) (k := k))
    have e : f_Model_image W imgs kept k = (-1000001, imgs, kept) := by
      unfold f_Model_image
      rw [iteT (show f_Model_in k 0 1 = 0 from q1)]
    rw [e] at k2
    have k1 := c_UH_imageBad (G := G) v0 (in2 q2)
    have e2 : f_UH_imageBad k = -1000001 := by unfold f_UH_imageBad; (repeat' split) <;> rfl
    rw [e2] at k1
    dsimp only at k2
    exact ⟨_, h, _, k1, k2, ⟨hxb, _, _, _, _, _, _, _, _, _, _, _, _, _, _, _, _, _, _, _, _, _, _, _, _, _, _, _, _, _, _, _, _, _, _, _, _, _, _, _, CI_m hxb C, ov_isV, ⟨r1, ⟨r2, r2b⟩, r3, r4, ⟨r5, r5b, r5c⟩, ⟨r6, r6b⟩, r7⟩⟩⟩
theorem s_restore {G : mG} {h : mHp} {x b : Nat} (I : INV h x b) (k : Int32) : STP G x b 3 1 mX7_restore mX8_restore [.int k] h ∨ STP G x b 0 1 mX7_restore mX8_restore [.int k] h := by
  obtain ⟨hxb, fin, lf, kn, ik, it, lan, siz, tape, ln, P, K, afi, asz, Z, left, nl, lane, many, items, spare, fp, mat, mst, tok, mval, W, past, imgs, kept, gvn, costs, lst, sets, bst, mlo, mal, mpr, lak, trc, C, M, r1, ⟨r2, r2b⟩, r3, r4, ⟨r5, r5b, r5c⟩, ⟨r6, r6b⟩, r7⟩ := I
  obtain ⟨v0, v1, v2, v3, v4, v5, v6, v7, v8, v9, v10, v11⟩ := id C
  obtain ⟨H, U, res, dem, kin, low, hig, pri, sta, ups, dow, onn, ord, flo, sro, sco, vd, hP, hc, hs⟩ := v3
  have hU : U ≤ 4 := by rw [hc.2.1]; exact hP.1
  have hH : H ≤ 6 := by rw [hc.1]; exact hP.2.1
  have w0 : W 0 0 = nI U := by rw [r3 0 (by omega), hc.2.1]
  have w1 : W 0 1 = nI H := by rw [r3 1 (by omega), hc.1]
  rcases inC (v := k) (N := 2) (by omega) with ⟨k0, hk, rfl, -⟩ | ⟨q1, q2⟩
  · left
    obtain ⟨H3, U3, res3, dem3, kin3, low3, hig3, pri3, sta3, ups3, dow3, onn3, ord3, flo3, sro3, sco3, vk, hZ⟩ := v6 _ hk
    have hU3 : U3 ≤ 4 := by rw [hZ.2.1.2.1]; exact hZ.1.1
    have hH3 : H3 ≤ 6 := by rw [hZ.2.1.1]; exact hZ.1.2.1
    have k1 := Ret.hyp3 vd v7 v0 (c_UH_restoreOk (G := G) (h := h) (k0 := k0) v5 vk (by omega) (by omega) (by omega) (by omega) (by omega) (by omega) (by omega) (by omega) (by omega) (by omega) (by omega) (by omega) hU3 hH3 hs.2.1 hk)
    generalize hR : f_UH_restoreOk ik H U res dem kin low hig pri sta ups dow onn ord flo sro sco asz H3 U3 res3 dem3 kin3 low3 hig3 pri3 sta3 ups3 dow3 onn3 = R at k1
    have k2 := fun h1 (M1 : isV h1 b (modL b lane many items spare fin tape ln lf fp mat mst tok mval W past asz imgs kept gvn costs lst sets bst mlo mal mpr lak trc nl)) => RetB.hyp M1 (c_Model_restore (G := G) (k := nI k0))
    generalize hM : f_Model_restore W asz imgs kept (nI k0) = N at k2
    obtain ⟨e, m1, m2, P', ⟨p1, p2, p3⟩, m0, m3⟩ := restore_R hk hP hc hs hZ r3 r4 r7 hR hM
    rw [e] at k1
    rw [m1] at k2
    exact ⟨_, _, _, k1, k2 _ (mV_ov (n := 1) (a := x) rfl (by omega) (mV_ov (n := 2) (a := x + 72) rfl (by omega) (mV_ov (n := 14) (a := x + 15) rfl (by omega) M))), ⟨hxb, _, _, _, _, _, _, _, _, _, _, _, _, _, _, _, _, _, _, _, _, _, _, _, _, _, _, _, _, _, _, _, _, _, _, _, _, _, _, _, CI_m hxb (CI_x (CI_c (CI_d C p1 p2 p3))), ov_isV, ⟨r1, ⟨r2, r2b⟩, m0, r4, ⟨r5, by omega, fun i hi => r5c i (by omega)⟩, ⟨r6, r6b⟩, m3⟩⟩⟩
  · right
    have k2 := RetB.hyp M (c_Model_restore (G := G) (k := k))
    have e : f_Model_restore W asz imgs kept k = (-1000001, W, asz) := by
      unfold f_Model_restore
      rw [iteT (show f_Model_in k 0 1 = 0 from q1)]
    rw [e] at k2
    have k1 := c_UH_restoreBad (G := G) v0 (in2 q2)
    have e2 : f_UH_restoreBad k = -1000001 := by unfold f_UH_restoreBad; (repeat' split) <;> rfl
    rw [e2] at k1
    dsimp only at k2
    exact ⟨_, h, _, k1, k2, ⟨hxb, _, _, _, _, _, _, _, _, _, _, _, _, _, _, _, _, _, _, _, _, _, _, _, _, _, _, _, _, _, _, _, _, _, _, _, _, _, _, _, CI_m hxb C, ov_isV, ⟨r1, ⟨r2, r2b⟩, r3, r4, ⟨r5, r5b, r5c⟩, ⟨r6, r6b⟩, r7⟩⟩⟩
