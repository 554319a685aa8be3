section TP6
variable {tape : Nat → Int32} {k0 : Int32} {ln : Nat}
theorem fig_bad {fk fp : Int32} {mat mst : Nat} {tok mval lo hi : Int32} (hw : f_Model_isWell fp = 0) : f_Model_figure tape ln fk fp mat mst tok mval lo hi = (0, fk, fp, mat, mst, tok, mval) := by
  unfold f_Model_figure
  rw [if_pos hw, takes_bad hw]
theorem beh_bad {fk fp : Int32} {mat mst : Nat} {tok mval lo hi : Int32} (hw : f_Model_isWell fp = 0) : f_Model_behind tape ln fk fp mat mst tok mval lo hi = (0, fk, fp, mat, mst, tok, mval) := by
  unfold f_Model_behind
  rw [takes_bad hw]
  dsimp only
  rw [fig_bad hw]
theorem unit_full {fk fp : Int32} {mat mst : Nat} {tok mval : Int32} {W : Nat → Nat → Int32} {j : Nat} (hw1 : f_Model_isWell fp = 1) (hj : ¬ nI j < (4 : Int32)) (hms : mst < 2 ^ 31) : f_Model_readsUnit tape ln fk fp mat mst tok mval W j = (3, nI mst, mat, mst, tok, mval, W) := by
  have hw : f_Model_isWell (nI mst) = 0 := well_0 hms
  unfold f_Model_readsUnit
  rw [iteF hj, takes_no hw1, lt_eq]
  dsimp only
  rw [fig_bad hw, lt_eq]
  dsimp only
  rw [beh_bad hw, lt_eq]
  dsimp only
  rw [beh_bad hw, lt_eq]
  dsimp only
  rw [beh_bad hw, lt_eq]
  dsimp only
  rw [beh_bad hw, lt_eq]
  dsimp only
  rw [beh_bad hw, lt_eq]
  dsimp only
  rw [takes_bad hw, lt_eq]
  dsimp only
  rw [if_pos hw]
theorem unit_keep {fk fp : Int32} {mat mst : Nat} {tok mval : Int32} {W : Nat → Nat → Int32} {j i : Nat} (hi : i ≠ 1) : (f_Model_readsUnit tape ln fk fp mat mst tok mval W j).2.2.2.2.2.2 i = W i := by
  unfold f_Model_readsUnit
  generalize f_Model_takes tape ln fk fp mat mst tok mval (if (nI j) < (4 : Int32) then (1 : Int32) else (0 : Int32)) (3 : Int32) = q1
  rw [lt_eq]
  generalize f_Model_figure tape ln q1.2.1 q1.2.2.1 q1.2.2.2.1 q1.2.2.2.2.1 q1.2.2.2.2.2.1 q1.2.2.2.2.2.2 (0 : Int32) (20 : Int32) = q2
  rw [lt_eq]
  generalize f_Model_behind tape ln q2.2.1 q2.2.2.1 q2.2.2.2.1 q2.2.2.2.2.1 q2.2.2.2.2.2.1 q2.2.2.2.2.2.2 q2.1 (30 : Int32) = q3
  rw [lt_eq]
  generalize f_Model_behind tape ln q3.2.1 q3.2.2.1 q3.2.2.2.1 q3.2.2.2.2.1 q3.2.2.2.2.2.1 q3.2.2.2.2.2.2 (1 : Int32) (9 : Int32) = q4
  rw [lt_eq]
  generalize f_Model_behind tape ln q4.2.1 q4.2.2.1 q4.2.2.2.1 q4.2.2.2.2.1 q4.2.2.2.2.2.1 q4.2.2.2.2.2.2 (0 : Int32) (40 : Int32) = q5
  rw [lt_eq]
  generalize f_Model_behind tape ln q5.2.1 q5.2.2.1 q5.2.2.2.1 q5.2.2.2.2.1 q5.2.2.2.2.2.1 q5.2.2.2.2.2.2 (1 : Int32) (3 : Int32) = q6
  rw [lt_eq]
  generalize f_Model_behind tape ln q6.2.1 q6.2.2.1 q6.2.2.2.1 q6.2.2.2.2.1 q6.2.2.2.2.2.1 q6.2.2.2.2.2.2 (1 : Int32) (3 : Int32) = q7
  rw [lt_eq]
  generalize f_Model_takes tape ln q7.2.1 q7.2.2.1 q7.2.2.2.1 q7.2.2.2.2.1 q7.2.2.2.2.2.1 q7.2.2.2.2.2.2 (if q7.2.2.2.2.2.1 = (4 : Int32) then (1 : Int32) else (0 : Int32)) (1 : Int32) = q8
  rw [lt_eq]
  split
  · rfl
  · dsimp only
    rw [vu_ne hi]
theorem units_L (hl : ln ≤ 120) (hby : ∀ i, i < ln → ¬ tape i < 0) (P0 : Nat → Nat) : ∀ n k at_ fk fp mat mst tok mval W P U kin low hig pri sta ups dow, n + k = 6 → k ≤ 4 → (k = 0 ∨ U = k) → pS k0 tape ln at_ 0 fk fp mat mst tok mval → mD (W 1) P → dU P k kin low hig pri sta ups dow → (∀ i, 1 ≤ i → i < 9 → P i = P0 i) → ∀ C M N, f_Tape_readUnits_L2 tape ln n k U kin low hig pri sta ups dow at_ 0 = C → f_Model_day_L144 tape ln n fk fp mat mst tok mval W = M → f_Model_must tape ln M.1 M.2.1 M.2.2.1 M.2.2.2.1 M.2.2.2.2.1 M.2.2.2.2.2.1 (if (0 : Int32) < ((M.2.2.2.2.2.2 1) 0) then if M.2.2.2.2.1 = (0 : Int32) then (1 : Int32) else (0 : Int32) else (0 : Int32)) = N →
    pS k0 tape ln C.2.2.2.2.2.2.2.2.2.1 C.2.2.2.2.2.2.2.2.2.2 N.1 N.2.1 N.2.2.1 N.2.2.2.1 N.2.2.2.2.1 N.2.2.2.2.2 ∧ (∀ i, i ≠ 1 → M.2.2.2.2.2.2 i = W i) ∧ (C.2.2.2.2.2.2.2.2.2.2 = 0 → ∃ P', mD (M.2.2.2.2.2.2 1) P' ∧ dU P' C.2.1 C.2.2.1 C.2.2.2.1 C.2.2.2.2.1 C.2.2.2.2.2.1 C.2.2.2.2.2.2.1 C.2.2.2.2.2.2.2.1 C.2.2.2.2.2.2.2.2.1 ∧ 1 ≤ C.2.1 ∧ C.2.1 ≤ 4 ∧ ∀ i, 1 ≤ i → i < 9 → P' i = P0 i) := by
  intro n
  induction n with
  | zero => intro k at_ fk fp mat mst tok mval W P U kin low hig pri sta ups dow h1 h2; omega
  | succ n ih =>
    intro k at_ fk fp mat mst tok mval W P U kin low hig pri sta ups dow hn h4 hU h hm hd hP0 C M N hC hM hN
    obtain ⟨g1, g2, g3⟩ := pS_good h rfl
    obtain ⟨e1, e2, e3, e4, e5, e6, e7⟩ := adv_facts hl h.1 g3
    have hle := h.1
    have hW0 : (W 1) 0 = nI k := by rw [hm 0 (by omega), hd.1]
    rw [f_Tape_readUnits_L2] at hC
    rw [f_Model_day_L144, g2, iteF (show ¬ (1 : Int32) = 0 by decide)] at hM
    rw [iteF (show ¬ (4 : Int32) < nI k from nI_nlt (a := 4) h4 (by omega)), iteT (show (0 : Int32) = 0 from rfl), nx_eq] at hC
    by_cases hend : ¬ k = 0 ∧ ¬ at_ < ln
    · rw [iteF (show ¬ nI k = (0 : Int32) from fun z => hend.1 ((nI_eq (b := 0) (by omega) (by omega)).mp z)), iteF (show ¬ nI at_ < nI ln from nI_nlt (by omega) (by omega))] at hC
      have hb : f_Model_byteAt tape ln at_ = -1 := by
        unfold f_Model_byteAt
        rw [iteF (show ¬ nI at_ < nI ln from nI_nlt (by omega) (by omega))]
      have ht0 : tok = 0 := e5.mpr (by rw [hb]; decide)
      rw [iteF (show ¬ tok = (1 : Int32) by rw [ht0]; decide)] at hM
      subst hM
      have hN2 : f_Model_must tape ln fk fp mat mst tok mval (if (0 : Int32) < ((W 1) 0) then if tok = (0 : Int32) then (1 : Int32) else (0 : Int32) else (0 : Int32)) = N := hN
      clear hN
      rw [hW0, iteT (show (0 : Int32) < nI k from nI_lt (a := 0) (by omega) (by omega)), if_pos ht0, must_yes g2] at hN2
      subst hC hN2
      dsimp only
      rcases hU with z | z
      · exact absurd z hend.1
      · subst z
        exact ⟨h, fun _ _ => rfl, fun _ => ⟨P, hm, hd, by omega, h4, hP0⟩⟩
    · have hC2 : (if f_Tape_kindOfSort (f_Model_byteAt tape ln at_) = (0 : Int32) then f_Tape_readUnits_L2 tape ln n (k + 1) U kin low hig pri sta ups dow at_ (1 : Int32) else (if (nI k) = (4 : Int32) then f_Tape_readUnits_L2 tape ln n (k + 1) U kin low hig pri sta ups dow at_ (3 : Int32) else ((fun q1 => f_Tape_readUnits_L2 tape ln n (k + 1) (k + 1) (upd kin k (f_Tape_kindOfSort (f_Model_byteAt tape ln at_))) q1.1 q1.2.1 q1.2.2.1 q1.2.2.2.1 q1.2.2.2.2.1 q1.2.2.2.2.2.1 q1.2.2.2.2.2.2.1 q1.2.2.2.2.2.2.2) (f_Tape_readUnit tape ln (at_ + 1) 0 low hig pri sta ups dow k)))) = C := by
        rw [← hC]
        by_cases z : k = 0
        · subst z; rw [iteT (show nI 0 = (0 : Int32) from rfl)]
        · rw [iteF (show ¬ nI k = (0 : Int32) from fun y => z ((nI_eq (b := 0) (by omega) (by omega)).mp y)), iteT (show nI at_ < nI ln from nI_lt (by omega) (by omega))]
      clear hC
      by_cases hk : f_Tape_kindOfSort (f_Model_byteAt tape ln at_) = 0
      · rw [if_pos hk, uL_bad n (k + 1) U kin low hig pri sta ups dow at_ 1 (by decide)] at hC2
        have hM2 : M = (fk, fp, mat, mst, tok, mval, W) := by
          rw [← hM]
          by_cases t : tok = 1
          · rw [if_pos t, e7 t, kind_none hk, iteF (show ¬ (0 : Int32) < 0 by decide)]
          · rw [if_neg t]
        subst hM2
        have hN2 : f_Model_must tape ln fk fp mat mst tok mval (if (0 : Int32) < ((W 1) 0) then if tok = (0 : Int32) then (1 : Int32) else (0 : Int32) else (0 : Int32)) = N := hN
        clear hN
        have hz : (if (0 : Int32) < ((W 1) 0) then if tok = (0 : Int32) then (1 : Int32) else (0 : Int32) else (0 : Int32)) = 0 := by
          rw [hW0]
          by_cases z : k = 0
          · subst z; rfl
          · have hlt : at_ < ln := by omega
            have hbn : ¬ f_Model_byteAt tape ln at_ < 0 := by
              unfold f_Model_byteAt
              rw [if_pos (nI_lt hlt (by omega))]
              exact hby at_ hlt
            rw [iteT (show (0 : Int32) < nI k from nI_lt (a := 0) (by omega) (by omega)), iteF (show ¬ tok = (0 : Int32) from fun y => hbn (e5.mp y))]
        rw [hz, must_no g2] at hN2
        subst hC2 hN2
        dsimp only
        exact ⟨⟨h.1, Or.inr ⟨by decide, rfl, by rw [e1]⟩⟩, fun _ _ => rfl, fun z => absurd z (by decide)⟩
      · rw [if_neg hk] at hC2
        obtain ⟨k1, k2, k3, kd, k4, k5⟩ := kind_letter hk
        have htok : tok = 1 := e4.mpr k1
        have hval : mval = f_Model_byteAt tape ln at_ := e7 htok
        have hW1 : ((W 1) 0).toNatClampNeg = k := by rw [hW0, nI_clamp (by omega)]
        rw [if_pos htok, hval, k3, k4, iteT (show (0 : Int32) < nI kd from nI_lt (a := 0) (by omega) (by omega)), hW1, ← hval] at hM
        by_cases c4 : k = 4
        · rw [iteT (show nI k = (4 : Int32) by rw [c4]; rfl), uL_bad n (k + 1) U kin low hig pri sta ups dow at_ 3 (by decide)] at hC2
          have hw : f_Model_isWell (nI mst) = 0 := well_0 (by omega)
          rw [unit_full g2 (nI_nlt (b := 4) (by omega) (by omega)) (by omega), lt_eq] at hM
          dsimp only at hM
          rw [vL_bad hw] at hM
          subst hC2 hM
          dsimp only at hN
          rw [must_bad hw] at hN
          subst hN
          dsimp only
          exact ⟨⟨h.1, Or.inr ⟨by decide, rfl, by rw [e1]⟩⟩, fun _ _ => rfl, fun z => absurd z (by decide)⟩
        · rw [iteF (show ¬ nI k = (4 : Int32) from fun z => c4 ((nI_eq (b := 4) (by omega) (by omega)).mp z))] at hC2
          generalize c1 : f_Tape_readUnit tape ln (at_ + 1) 0 low hig pri sta ups dow k = q at hC2
          dsimp only at hC2
          generalize m1 : f_Model_readsUnit tape ln fk fp mat mst tok mval W k = p at hM
          rw [lt_eq] at hM
          have hp1 : ∀ i, i ≠ 1 → p.2.2.2.2.2.2 i = W i := by
            intro i hi
            rw [← m1]
            exact unit_keep hi
          obtain ⟨s1, s2⟩ := unit_step hl h hk (show k < 4 by omega) c1 m1
          by_cases hf : q.2.2.2.2.2.2.2 = 0
          · obtain ⟨lo, hi, pr, st, up, dn, r0, r1, r2, r3, r4, r5, r6, r7⟩ := s2 hf
            rw [hf, r1, r2, r3, r4, r5, r6, k4] at hC2
            rw [hf] at s1
            rw [k4] at r7
            obtain ⟨i1, i2, i3⟩ := ih (k + 1) q.2.2.2.2.2.2.1 p.1 p.2.1 p.2.2.1 p.2.2.2.1 p.2.2.2.2.1 p.2.2.2.2.2.1 p.2.2.2.2.2.2 (drN P k kd lo hi pr st up dn) (k + 1) _ _ _ _ _ _ _ (by omega) (by omega) (Or.inr rfl) s1 (by rw [r7, vu_self]; exact drN_m hm) (dU_step hd r0 k5) (fun i a b => by rw [drN_o (by omega) (by omega)]; exact hP0 i a b) C M N hC2 hM hN
            exact ⟨i1, fun i hi => (i2 i hi).trans (hp1 i hi), i3⟩
          · rw [uL_bad n (k + 1) (k + 1) _ _ _ _ _ _ _ q.2.2.2.2.2.2.1 q.2.2.2.2.2.2.2 hf] at hC2
            have w := pS_bad hl s1 hf
            rw [vL_bad w] at hM
            subst hC2 hM
            dsimp only at hN
            rw [must_bad w] at hN
            subst hN
            exact ⟨s1, hp1, fun z => absurd z hf⟩
end TP6
