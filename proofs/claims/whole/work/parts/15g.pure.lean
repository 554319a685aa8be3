section TP5
variable {r : Nat} {tape : Nat → Int32} {k0 : Int32} {ln : Nat}
theorem dH_step {P : Nat → Nat} {j v : Nat} {dem w : Nat → Int32} (hj : j < 6) (h : dH r P j dem) (hv : v ≤ 60) (hm : mD w P) : dH r (va_up (va_up P (3 + j) v) 1 (j + 1)) (j + 1) (upd dem j (nI v)) ∧ mD (upd (upd w (3 + j) (nI v)) 1 (nI (j + 1))) (va_up (va_up P (3 + j) v) 1 (j + 1)) := by
  obtain ⟨h0, h1, h2, h3⟩ := h
  refine ⟨⟨?_, vu_self, ?_, fun i hi => ?_⟩, ?_⟩
  · rw [vu_ne (by omega), vu_ne (by omega)]; exact h0
  · rw [vu_ne (by omega), vu_ne (by omega)]; exact h2
  · rw [vu_ne (show 3 + i ≠ 1 by omega)]
    by_cases c : i = j
    · rw [c, pk_us, vu_self]; exact ⟨rfl, hv⟩
    · rw [pk_un c, vu_ne (show 3 + i ≠ 3 + j by omega)]; exact h3 i (by omega)
  · rw [upd_eq, upd_eq]
    exact mD_up (mD_up hm)
theorem hour_keep {fk fp : Int32} {mat mst : Nat} {tok mval : Int32} {W : Nat → Nat → Int32} {j i : Nat} (hi : i ≠ 1) : (f_Model_readsHour tape ln fk fp mat mst tok mval W j).2.2.2.2.2.2 i = W i := by
  unfold f_Model_readsHour
  generalize f_Model_takes tape ln fk fp mat mst tok mval (if (nI j) < (6 : Int32) then (1 : Int32) else (0 : Int32)) (3 : Int32) = q1
  dsimp only
  generalize f_Model_figure tape ln q1.2.1 q1.2.2.1 q1.2.2.2.1 q1.2.2.2.2.1 q1.2.2.2.2.2.1 q1.2.2.2.2.2.2 (0 : Int32) (60 : Int32) = q2
  generalize f_Model_takes tape ln q2.2.1 q2.2.2.1 q2.2.2.2.1 q2.2.2.2.2.1 q2.2.2.2.2.2.1 q2.2.2.2.2.2.2 (if q2.2.2.2.2.2.1 = (4 : Int32) then (1 : Int32) else (0 : Int32)) (1 : Int32) = q3
  split
  · rfl
  · dsimp only
    rw [vu_ne hi, vu_ne hi]
theorem hour_full {fk fp : Int32} {mat mst : Nat} {tok mval : Int32} {W : Nat → Nat → Int32} {j : Nat} (hw1 : f_Model_isWell fp = 1) (hj : ¬ nI j < (6 : Int32)) (hms : mst < 2 ^ 31) : f_Model_readsHour tape ln fk fp mat mst tok mval W j = (3, nI mst, mat, mst, tok, mval, W) := by
  have hw : f_Model_isWell (nI mst) = 0 := well_0 hms
  have hfig : f_Model_figure tape ln 3 (nI mst) mat mst tok mval 0 60 = (0, 3, nI mst, mat, mst, tok, mval) := by
    unfold f_Model_figure
    rw [if_pos hw, takes_bad hw]
  unfold f_Model_readsHour
  rw [iteF hj, takes_no hw1]
  dsimp only
  rw [hfig]
  dsimp only
  rw [takes_bad hw]
  dsimp only
  rw [if_pos hw]
theorem hours_L (hl : ln ≤ 120) : ∀ n j at_ fk fp mat mst tok mval W P dem, n + j = 8 → 1 ≤ j → j ≤ 6 → pS k0 tape ln at_ 0 fk fp mat mst tok mval → mD (W 1) P → dH r P j dem → ∀ C M, f_Tape_readHours_L2 tape ln n j j dem at_ 0 = C → f_Model_day_L95 tape ln n fk fp mat mst tok mval W = M →
    pS k0 tape ln C.2.2.2.1 C.2.2.2.2 M.1 M.2.1 M.2.2.1 M.2.2.2.1 M.2.2.2.2.1 M.2.2.2.2.2.1 ∧ (∀ i, i ≠ 1 → M.2.2.2.2.2.2 i = W i) ∧ (C.2.2.2.2 = 0 → ∃ P', mD (M.2.2.2.2.2.2 1) P' ∧ dH r P' C.2.1 C.2.2.1 ∧ 1 ≤ C.2.1 ∧ C.2.1 ≤ 6) := by
  intro n
  induction n with
  | zero => intro j at_ fk fp mat mst tok mval W P dem h1 _ h3; omega
  | succ n ih =>
    intro j at_ fk fp mat mst tok mval W P dem hn h1 h6 h hm hd C M hC hM
    obtain ⟨g1, g2, g3⟩ := pS_good h rfl
    obtain ⟨e1, e2, e3, e4, e5, e6, e7⟩ := adv_facts hl h.1 g3
    rw [f_Tape_readHours_L2] at hC
    rw [f_Model_day_L95, g2, iteF (show ¬ (1 : Int32) = 0 by decide)] at hM
    rw [iteF (show ¬ (6 : Int32) < nI j from nI_nlt (a := 6) h6 (by omega)), iteT (show (0 : Int32) = 0 from rfl), iteF (show ¬ nI j = (0 : Int32) from fun z => by have := (nI_eq (b := 0) (by omega) (by omega)).mp z; omega), nx_eq] at hC
    by_cases hb : f_Model_byteAt tape ln at_ = 104
    · have htok : tok = 1 := e4.mpr (by rw [hb]; decide)
      have hval : mval = 104 := (e7 htok).trans hb
      have hW1 : ((W 1) 1).toNatClampNeg = j := by rw [hm 1 (by omega), hd.2.1, nI_clamp (by omega)]
      rw [if_pos hb] at hC
      rw [if_pos htok, if_pos hval, hW1] at hM
      by_cases c6 : j = 6
      · rw [iteT (show nI j = (6 : Int32) by rw [c6]; rfl)] at hC
        have hC2 := hL_bad (tape := tape) (ln := ln) n (j + 1) j dem at_ 3 (by decide)
        rw [hC2] at hC
        subst hC
        have hw : f_Model_isWell (nI mst) = 0 := well_0 (by have := h.1; omega)
        rw [hour_full g2 (nI_nlt (b := 6) (by omega) (by omega)) (by have := h.1; omega), lt_eq] at hM
        dsimp only at hM
        rw [mL_bad hw] at hM
        subst hM
        dsimp only
        refine ⟨⟨h.1, Or.inr ⟨by decide, rfl, by rw [e1]⟩⟩, fun _ _ => rfl, fun z => absurd z (by decide)⟩
      · rw [iteF (show ¬ nI j = (6 : Int32) from fun z => c6 ((nI_eq (b := 6) (by omega) (by omega)).mp z))] at hC
        dsimp only at hC
        generalize c1 : f_Tape_readSign tape ln at_ 0 (104 : Int32) = q1 at hC
        generalize c2 : f_Tape_readNumber tape ln q1.1 q1.2 (0 : Int32) (60 : Int32) = q2 at hC
        generalize c3 : f_Tape_readSign tape ln q2.2.1 q2.2.2 (59 : Int32) = q3 at hC
        generalize m1 : f_Model_readsHour tape ln fk fp mat mst tok mval W j = p at hM
        rw [lt_eq] at hM
        have hp1 : ∀ i, i ≠ 1 → p.2.2.2.2.2.2 i = W i := by
          intro i hi
          rw [← m1]
          exact hour_keep hi
        obtain ⟨s1, s2⟩ := hour_step hl h hb (show j < 6 by omega) c1 c2 c3 m1
        by_cases hf : q3.2 = 0
        · obtain ⟨v, v1, v2, v3⟩ := s2 hf
          rw [hf, v2] at hC
          rw [hf] at s1
          obtain ⟨d1, d2⟩ := dH_step (show j < 6 by omega) hd v1 hm
          obtain ⟨i1, i2, i3⟩ := ih (j + 1) q3.1 p.1 p.2.1 p.2.2.1 p.2.2.2.1 p.2.2.2.2.1 p.2.2.2.2.2.1 p.2.2.2.2.2.2 _ _ (by omega) (by omega) (by omega) s1 (by rw [v3, vu_self]; exact d2) d1 C M hC hM
          exact ⟨i1, fun i hi => (i2 i hi).trans (hp1 i hi), i3⟩
        · rw [hL_bad n (j + 1) (j + 1) _ q3.1 q3.2 hf] at hC
          have w := pS_bad hl s1 hf
          rw [mL_bad w] at hM
          subst hC hM
          exact ⟨s1, hp1, fun z => absurd z hf⟩
    · rw [if_neg hb] at hC
      subst hC
      have hM2 : M = (fk, fp, mat, mst, tok, mval, W) := by
        rw [← hM]
        by_cases t : tok = 1
        · rw [if_pos t, iteF (show ¬ mval = (104 : Int32) from fun z => hb ((e7 t).symm.trans z))]
        · rw [if_neg t]
      subst hM2
      exact ⟨h, fun _ _ => rfl, fun _ => ⟨P, hm, hd, h1, h6⟩⟩
theorem hours_first {n : Nat} (hn : n = 7) {at_ : Nat} {fl fk fp : Int32} {mat mst : Nat} {tok mval : Int32} {W : Nat → Nat → Int32} {P : Nat → Nat} {H : Nat} {dem : Nat → Int32} {C : Nat × Nat × (Nat → Int32) × Nat × Int32} {M : Int32 × Int32 × Nat × Nat × Int32 × Int32 × (Nat → Nat → Int32)} {N : Int32 × Int32 × Nat × Nat × Int32 × Int32} (hl : ln ≤ 120) (h : pS k0 tape ln at_ fl fk fp mat mst tok mval) (hm : fl = 0 → mD (W 1) P ∧ dH r P 0 dem) (hW : (W 1) 1 = 0)
    (hC : f_Tape_readHours_L2 tape ln (n + 1) 0 H dem at_ fl = C) (hM : f_Model_day_L95 tape ln (n + 1) fk fp mat mst tok mval W = M) (hN : f_Model_must tape ln M.1 M.2.1 M.2.2.1 M.2.2.2.1 M.2.2.2.2.1 M.2.2.2.2.2.1 (if (0 : Int32) < ((M.2.2.2.2.2.2 1) 1) then (1 : Int32) else (0 : Int32)) = N) :
    pS k0 tape ln C.2.2.2.1 C.2.2.2.2 N.1 N.2.1 N.2.2.1 N.2.2.2.1 N.2.2.2.2.1 N.2.2.2.2.2 ∧ (∀ i, i ≠ 1 → M.2.2.2.2.2.2 i = W i) ∧ (C.2.2.2.2 = 0 → ∃ P', mD (M.2.2.2.2.2.2 1) P' ∧ dH r P' C.2.1 C.2.2.1 ∧ 1 ≤ C.2.1 ∧ C.2.1 ≤ 6) := by
  by_cases hf : fl = 0
  · obtain ⟨hm1, hd⟩ := hm hf
    subst hf
    obtain ⟨g1, g2, g3⟩ := pS_good h rfl
    obtain ⟨e1, e2, e3, e4, e5, e6, e7⟩ := adv_facts hl h.1 g3
    rw [f_Tape_readHours_L2] at hC
    rw [f_Model_day_L95, g2, iteF (show ¬ (1 : Int32) = 0 by decide)] at hM
    rw [iteF (show ¬ (6 : Int32) < nI 0 by decide), iteT (show (0 : Int32) = 0 from rfl), iteT (show nI 0 = (0 : Int32) from rfl), iteF (show ¬ nI 0 = (6 : Int32) by decide)] at hC
    dsimp only at hC
    generalize c1 : f_Tape_readSign tape ln at_ 0 (104 : Int32) = q1 at hC
    generalize c2 : f_Tape_readNumber tape ln q1.1 q1.2 (0 : Int32) (60 : Int32) = q2 at hC
    generalize c3 : f_Tape_readSign tape ln q2.2.1 q2.2.2 (59 : Int32) = q3 at hC
    by_cases hb : f_Model_byteAt tape ln at_ = 104
    · have htok : tok = 1 := e4.mpr (by rw [hb]; decide)
      have hval : mval = 104 := (e7 htok).trans hb
      have hW1 : ((W 1) 1).toNatClampNeg = 0 := by rw [hW]; decide
      rw [if_pos htok, if_pos hval, hW1] at hM
      generalize m1 : f_Model_readsHour tape ln fk fp mat mst tok mval W 0 = p at hM
      rw [lt_eq] at hM
      have hp1 : ∀ i, i ≠ 1 → p.2.2.2.2.2.2 i = W i := by
        intro i hi
        rw [← m1]
        exact hour_keep hi
      obtain ⟨s1, s2⟩ := hour_step hl h hb (show 0 < 6 by omega) c1 c2 c3 m1
      by_cases hf : q3.2 = 0
      · obtain ⟨v, v1, v2, v3⟩ := s2 hf
        rw [hf, v2] at hC
        rw [hf] at s1
        obtain ⟨d1, d2⟩ := dH_step (show 0 < 6 by omega) hd v1 hm1
        obtain ⟨i1, i2, i3⟩ := hours_L hl n 1 q3.1 p.1 p.2.1 p.2.2.1 p.2.2.2.1 p.2.2.2.2.1 p.2.2.2.2.2.1 p.2.2.2.2.2.2 _ _ (by omega) (by omega) (by omega) s1 (by rw [v3, vu_self]; exact d2) d1 C M hC hM
        by_cases hk : C.2.2.2.2 = 0
        · obtain ⟨P', p1, p2, p3, p4⟩ := i3 hk
          obtain ⟨w1, w2, w3⟩ := pS_good i1 hk
          rw [p1 1 (by omega), p2.2.1, iteT (show (0 : Int32) < nI C.2.1 from nI_lt (a := 0) p3 (by omega)), must_yes w2] at hN
          subst hN
          exact ⟨i1, fun i hi => (i2 i hi).trans (hp1 i hi), i3⟩
        · have w := pS_bad hl i1 hk
          rw [must_bad w] at hN
          subst hN
          exact ⟨i1, fun i hi => (i2 i hi).trans (hp1 i hi), i3⟩
      · rw [hL_bad n 1 1 _ q3.1 q3.2 hf] at hC
        have w := pS_bad hl s1 hf
        rw [mL_bad w] at hM
        subst hC hM
        dsimp only at hN
        rw [must_bad w] at hN
        subst hN
        exact ⟨s1, hp1, fun z => absurd z hf⟩
    · have hM2 : M = (fk, fp, mat, mst, tok, mval, W) := by
        rw [← hM]
        by_cases t : tok = 1
        · rw [if_pos t, iteF (show ¬ mval = (104 : Int32) from fun z => hb ((e7 t).symm.trans z))]
        · rw [if_neg t]
      subst hM2
      have hN2 : f_Model_must tape ln fk fp mat mst tok mval (if (0 : Int32) < ((W 1) 1) then (1 : Int32) else (0 : Int32)) = N := hN
      clear hN
      rw [hW, iteF (show ¬ (0 : Int32) < 0 by decide), must_no g2] at hN2
      have k1 : q1 = (at_, 1) := by
        rw [← c1]
        unfold f_Tape_readSign
        rw [iteT (show (0 : Int32) = 0 from rfl), nx_eq, if_neg hb, if_neg hb]
      rw [k1] at c2
      have k2 : q2 = (0, at_, 1) := by
        rw [← c2]
        unfold f_Tape_readNumber
        rw [iteF (show ¬ (1 : Int32) = 0 by decide)]
      rw [k2] at c3
      have k3 : q3 = (at_, 1) := by
        rw [← c3]
        unfold f_Tape_readSign
        rw [iteF (show ¬ (1 : Int32) = 0 by decide)]
      rw [k3] at hC
      rw [hL_bad n 1 1 _ at_ 1 (by decide)] at hC
      subst hC hN2
      dsimp only
      exact ⟨⟨h.1, Or.inr ⟨by decide, rfl, by rw [e1]⟩⟩, fun _ _ => rfl, fun z => absurd z (by decide)⟩
  · have w := pS_bad hl h hf
    rw [hL_bad (n + 1) 0 H dem at_ fl hf] at hC
    rw [mL_bad w] at hM
    subst hC hM
    dsimp only at hN
    rw [must_bad w] at hN
    subst hN
    exact ⟨h, fun _ _ => rfl, fun z => absurd z hf⟩
theorem hours_all {at_ : Nat} {fl fk fp : Int32} {mat mst : Nat} {tok mval : Int32} {W : Nat → Nat → Int32} {P : Nat → Nat} {H : Nat} {dem : Nat → Int32} {C : Nat × (Nat → Int32) × Nat × Int32} {M : Int32 × Int32 × Nat × Nat × Int32 × Int32 × (Nat → Nat → Int32)} {N : Int32 × Int32 × Nat × Nat × Int32 × Int32} (hl : ln ≤ 120) (h : pS k0 tape ln at_ fl fk fp mat mst tok mval) (hm : fl = 0 → mD (W 1) P ∧ dH r P 0 dem) (hW : (W 1) 1 = 0)
    (hC : f_Tape_readHours tape ln at_ fl H dem = C) (hM : f_Model_day_L95 tape ln 8 fk fp mat mst tok mval W = M) (hN : f_Model_must tape ln M.1 M.2.1 M.2.2.1 M.2.2.2.1 M.2.2.2.2.1 M.2.2.2.2.2.1 (if (0 : Int32) < ((M.2.2.2.2.2.2 1) 1) then (1 : Int32) else (0 : Int32)) = N) :
    pS k0 tape ln C.2.2.1 C.2.2.2 N.1 N.2.1 N.2.2.1 N.2.2.2.1 N.2.2.2.2.1 N.2.2.2.2.2 ∧ (∀ i, i ≠ 1 → M.2.2.2.2.2.2 i = W i) ∧ (C.2.2.2 = 0 → ∃ P', mD (M.2.2.2.2.2.2 1) P' ∧ dH r P' C.1 C.2.1 ∧ 1 ≤ C.1 ∧ C.1 ≤ 6) := by
  unfold f_Tape_readHours at hC
  generalize hK : f_Tape_readHours_L2 tape ln 8 0 H dem at_ fl = K at hC
  have k := hours_first (n := 7) rfl hl h hm hW hK hM hN
  subst hC
  exact k
end TP5
