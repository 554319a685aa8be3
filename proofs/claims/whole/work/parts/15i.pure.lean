theorem ri_lt {by_ : Nat → Int32} {ln : Nat} {H : Nat} {U : Nat} {dem : Nat → Int32} {kin : Nat → Int32} {low : Nat → Int32} {hig : Nat → Int32} {pri : Nat → Int32} {sta : Nat → Int32} {ups : Nat → Int32} {dow : Nat → Int32} {onn : Nat → Int32} : f_Tape_readInto by_ ln H U dem kin low hig pri sta ups dow onn = (lt_ (f_Tape_readSign by_ ln 0 (0 : Int32) (118 : Int32)) (fun q1 => (lt_ (f_Tape_readNumber by_ ln q1.1 q1.2 (0 : Int32) (20 : Int32)) (fun q2 => (lt_ (f_Tape_readSign by_ ln q2.2.1 q2.2.2 (59 : Int32)) (fun q3 => (lt_ (f_Tape_readHours by_ ln q3.1 q3.2 H dem) (fun q4 => (lt_ (f_Tape_readUnits by_ ln q4.2.2.1 q4.2.2.2 U kin low hig pri sta ups dow) (fun q5 => (q4.1, q5.1, q2.1, q4.2.1, q5.2.1, q5.2.2.1, q5.2.2.2.1, q5.2.2.2.2.1, q5.2.2.2.2.2.1, q5.2.2.2.2.2.2.1, q5.2.2.2.2.2.2.2.1, f_fillI 4 onn (0 : Int32), q5.2.2.2.2.2.2.2.2.1, q5.2.2.2.2.2.2.2.2.2))))))))))) := rfl

theorem dL2 {W : Nat → Nat → Int32} : ∀ n, (∀ i, i ≠ 1 → f_Model_day_L2 W n i = W i) ∧ ∀ k, k < n → f_Model_day_L2 W n 1 k = 0 := by
  intro n
  induction n with
  | zero => exact ⟨fun _ _ => rfl, fun k h => absurd h (Nat.not_lt_zero _)⟩
  | succ n ih =>
    obtain ⟨i1, i2⟩ := ih
    have e : f_Model_day_L2 W (n + 1) = f_Model_day_L2s n (f_Model_day_L2 W n) := rfl
    rw [e]
    unfold f_Model_day_L2s
    refine ⟨fun i hi => by rw [vu_ne hi]; exact i1 i hi, fun k hk => ?_⟩
    rw [vu_self]
    by_cases c : k = n
    · rw [c, pk_us]
    · rw [pk_un c]; exact i2 k (by omega)
theorem readInto_R {tape : Nat → Int32} {ln : Nat} {fk : Int32} {W : Nat → Nat → Int32} {nac H U : Nat} {dem kin low hig pri sta ups dow onn : Nat → Int32} {C : Nat × Nat × Int32 × (Nat → Int32) × (Nat → Int32) × (Nat → Int32) × (Nat → Int32) × (Nat → Int32) × (Nat → Int32) × (Nat → Int32) × (Nat → Int32) × (Nat → Int32) × Nat × Int32} {M : Int32 × Nat × Int32 × Int32 × Nat × Nat × Int32 × Int32 × (Nat → Nat → Int32) × Nat} (hl : ln ≤ 120) (hby : ∀ i, i < ln → ¬ tape i < 0)
    (hC : f_Tape_readInto tape ln H U dem kin low hig pri sta ups dow onn = C) (hM : f_Model_day tape ln fk W nac = M) :
    M.2.1 = 0 ∧ ((¬ C.2.2.2.2.2.2.2.2.2.2.2.2.2 = 0 ∧ M.2.2.1 = C.2.2.2.2.2.2.2.2.2.2.2.2.2 ∧ M.1 = (-1000100 : Int32) - nI C.2.2.2.2.2.2.2.2.2.2.2.2.1 ∧ M.2.2.2.2.2.2.2.2.1 0 = W 0 ∧ M.2.2.2.2.2.2.2.2.2 = nac) ∨
      (C.2.2.2.2.2.2.2.2.2.2.2.2.2 = 0 ∧ M.2.2.1 = fk ∧ ∃ P, nOK P ∧ mD (M.2.2.2.2.2.2.2.2.1 0) P ∧ cD P C.1 C.2.1 C.2.2.1 C.2.2.2.1 C.2.2.2.2.1 C.2.2.2.2.2.1 C.2.2.2.2.2.2.1 C.2.2.2.2.2.2.2.1 C.2.2.2.2.2.2.2.2.1 C.2.2.2.2.2.2.2.2.2.1 C.2.2.2.2.2.2.2.2.2.2.1 C.2.2.2.2.2.2.2.2.2.2.2.1 ∧ M.1 = nI C.2.1 ∧ M.2.2.2.2.2.2.2.2.2 = 0)) := by
  rw [ri_lt] at hC
  unfold f_Model_day at hM
  have h0 : pS fk tape ln 0 0 fk (-1) (f_Model_advances tape ln 0).1 (f_Model_advances tape ln 0).2.1 (f_Model_advances tape ln 0).2.2.1 (f_Model_advances tape ln 0).2.2.2 := ⟨Nat.zero_le _, Or.inl ⟨rfl, rfl, rfl, rfl⟩⟩
  generalize f_Model_advances tape ln 0 = A at h0 hM
  rw [lt_eq] at hM
  generalize c1 : f_Tape_readSign tape ln 0 (0 : Int32) (118 : Int32) = q1 at hC
  generalize m1 : f_Model_takes tape ln fk (-1 : Int32) A.1 A.2.1 A.2.2.1 A.2.2.2 (if A.2.2.1 = (1 : Int32) then if A.2.2.2 = (118 : Int32) then (1 : Int32) else (0 : Int32) else (0 : Int32)) (1 : Int32) = p1 at hM
  obtain ⟨s1, -⟩ := sign_step (sg := 118) hl (by decide) h0 (letter_z (c := 118) (by decide) hl h0) c1 m1
  rw [lt_eq] at hC hM
  generalize c2 : f_Tape_readNumber tape ln q1.1 q1.2 (0 : Int32) (20 : Int32) = q2 at hC
  generalize m2 : f_Model_figure tape ln p1.2.1 p1.2.2.1 p1.2.2.2.1 p1.2.2.2.2.1 p1.2.2.2.2.2.1 p1.2.2.2.2.2.2 (0 : Int32) (20 : Int32) = p2 at hM
  obtain ⟨t1, t2, t3, t4⟩ := num_step (b := 20) hl s1 (fun _ => ⟨0, by omega, rfl⟩) rfl (by omega) c2 m2
  rw [lt_eq] at hC hM
  generalize c3 : f_Tape_readSign tape ln q2.2.1 q2.2.2 (59 : Int32) = q3 at hC
  generalize m3 : f_Model_takes tape ln p2.2.1 p2.2.2.1 p2.2.2.2.1 p2.2.2.2.2.1 p2.2.2.2.2.2.1 p2.2.2.2.2.2.2 (if p2.2.2.2.2.2.1 = (4 : Int32) then (1 : Int32) else (0 : Int32)) (1 : Int32) = p3 at hM
  obtain ⟨u1, u2⟩ := sign_step (sg := 59) hl (by decide) t1 (stop_z hl t1) c3 m3
  rw [lt_eq] at hC hM
  obtain ⟨w1, w2⟩ := dL2 (W := W) 41
  generalize f_Model_day_L2 W 41 = W1 at w1 w2 hM
  generalize hW2 : va_up W1 1 (upd (W1 1) 2 p2.1) = W2 at hM
  have hW20 : W2 0 = W 0 := by rw [← hW2, vu_ne (by decide)]; exact w1 0 (by decide)
  have hW21 : (W2 1) 1 = 0 := by rw [← hW2, vu_self, pk_un (by decide)]; exact w2 1 (by omega)
  have hPz : ∀ r, p2.1 = nI r → mD (W2 1) (va_up (fun _ => 0) 2 r) := by
    intro r hr k hk
    rw [← hW2, vu_self]
    by_cases c : k = 2
    · rw [c, pk_us, vu_self]; exact hr
    · rw [pk_un c, vu_ne c]; exact w2 k hk
  generalize c4 : f_Tape_readHours tape ln q3.1 q3.2 H dem = q4 at hC
  generalize m4 : f_Model_day_L95 tape ln 8 p3.2.1 p3.2.2.1 p3.2.2.2.1 p3.2.2.2.2.1 p3.2.2.2.2.2.1 p3.2.2.2.2.2.2 W2 = p4 at hM
  rw [lt_eq] at hC hM
  generalize m5 : f_Model_must tape ln p4.1 p4.2.1 p4.2.2.1 p4.2.2.2.1 p4.2.2.2.2.1 p4.2.2.2.2.2.1 (if (0 : Int32) < ((p4.2.2.2.2.2.2 1) 1) then (1 : Int32) else (0 : Int32)) = p5 at hM
  have hr : ∃ r, (q3.2 = 0 → q2.1 = nI r ∧ r ≤ 20) := by
    by_cases c : q3.2 = 0
    · obtain ⟨a, v, _, _, b1, _, b2⟩ := t4 (u2 c)
      exact ⟨v, fun _ => ⟨b1, b2⟩⟩
    · exact ⟨0, fun z => absurd z c⟩
  obtain ⟨r, hr⟩ := hr
  obtain ⟨x1, x2, x3⟩ := hours_all (r := r) (P := va_up (fun _ => 0) 2 r) hl u1 (fun z => ⟨hPz r (t3.symm.trans (hr z).1), rfl, rfl, ⟨rfl, (hr z).2⟩, fun h hh => absurd hh (Nat.not_lt_zero _)⟩) hW21 c4 m4 m5
  rw [lt_eq] at hM
  generalize c5 : f_Tape_readUnits tape ln q4.2.2.1 q4.2.2.2 U kin low hig pri sta ups dow = q5 at hC
  rw [lt_eq] at hC
  generalize m6 : f_Model_day_L144 tape ln 6 p5.1 p5.2.1 p5.2.2.1 p5.2.2.2.1 p5.2.2.2.2.1 p5.2.2.2.2.2 p4.2.2.2.2.2.2 = p6 at hM
  rw [lt_eq] at hM
  generalize m7 : f_Model_must tape ln p6.1 p6.2.1 p6.2.2.1 p6.2.2.2.1 p6.2.2.2.2.1 p6.2.2.2.2.2.1 (if (0 : Int32) < ((p6.2.2.2.2.2.2 1) 0) then if p6.2.2.2.2.1 = (0 : Int32) then (1 : Int32) else (0 : Int32) else (0 : Int32)) = p7 at hM
  rw [lt_eq] at hM
  have hfin : pS fk tape ln q5.2.2.2.2.2.2.2.2.1 q5.2.2.2.2.2.2.2.2.2 p7.1 p7.2.1 p7.2.2.1 p7.2.2.2.1 p7.2.2.2.2.1 p7.2.2.2.2.2 ∧ (∀ i, i ≠ 1 → p6.2.2.2.2.2.2 i = p4.2.2.2.2.2.2 i) ∧ (q5.2.2.2.2.2.2.2.2.2 = 0 → ∃ P0 P', dH r P0 q4.1 q4.2.1 ∧ 1 ≤ q4.1 ∧ q4.1 ≤ 6 ∧ q2.1 = nI r ∧ mD (p6.2.2.2.2.2.2 1) P' ∧ dU P' q5.1 q5.2.1 q5.2.2.1 q5.2.2.2.1 q5.2.2.2.2.1 q5.2.2.2.2.2.1 q5.2.2.2.2.2.2.1 q5.2.2.2.2.2.2.2.1 ∧ 1 ≤ q5.1 ∧ q5.1 ≤ 4 ∧ ∀ i, 1 ≤ i → i < 9 → P' i = P0 i) := by
    unfold f_Tape_readUnits at c5
    generalize hK : f_Tape_readUnits_L2 tape ln 6 0 U kin low hig pri sta ups dow q4.2.2.1 q4.2.2.2 = K at c5
    dsimp only at c5
    by_cases hf : q4.2.2.2 = 0
    · obtain ⟨P0, y1, y2, y3, y4⟩ := x3 hf
      rw [hf] at x1 hK
      have hq3 : q3.2 = 0 := by
        by_cases c : q3.2 = 0
        · exact c
        · exfalso
          unfold f_Tape_readHours at c4
          rw [hL_bad 8 0 H dem q3.1 q3.2 c] at c4
          rw [← c4] at hf
          exact c hf
      obtain ⟨z1, z2, z3⟩ := units_L (k0 := fk) hl hby P0 6 0 q4.2.2.1 p5.1 p5.2.1 p5.2.2.1 p5.2.2.2.1 p5.2.2.2.2.1 p5.2.2.2.2.2 p4.2.2.2.2.2.2 P0 U kin low hig pri sta ups dow rfl (by omega) (Or.inl rfl) x1 y1 ⟨y2.1, fun u hu => absurd hu (Nat.not_lt_zero _)⟩ (fun _ _ _ => rfl) K p6 p7 hK m6 m7
      subst c5
      refine ⟨z1, z2, fun z => ?_⟩
      obtain ⟨P', a1, a2, a3, a4, a5⟩ := z3 z
      exact ⟨P0, P', y2, y3, y4, (hr hq3).1, a1, a2, a3, a4, a5⟩
    · rw [uL_bad 6 0 U kin low hig pri sta ups dow q4.2.2.1 q4.2.2.2 hf] at hK
      have w := pS_bad hl x1 hf
      rw [vL_bad w] at m6
      subst hK
      subst c5
      rw [← m6] at m7 ⊢
      dsimp only at m7
      rw [must_bad w] at m7
      rw [← m7]
      exact ⟨x1, fun _ _ => rfl, fun z => absurd z hf⟩
  obtain ⟨f1, f2, f3⟩ := hfin
  subst hC
  dsimp only
  have hk0 : p6.2.2.2.2.2.2 0 = W 0 := (f2 0 (by decide)).trans ((x2 0 (by decide)).trans hW20)
  by_cases hf : q5.2.2.2.2.2.2.2.2.2 = 0
  · obtain ⟨g1, g2, g3⟩ := pS_good f1 hf
    rw [g2, iteF (show ¬ (1 : Int32) = 0 by decide)] at hM
    subst hM
    dsimp only
    refine ⟨rfl, Or.inr ⟨hf, pS_k f1 hf, ?_⟩⟩
    obtain ⟨P0, P', y2, y3, y4, b0, a1, a2, a3, a4, a5⟩ := f3 hf
    obtain ⟨d0, d1, ⟨d2, d2'⟩, d3⟩ := y2
    obtain ⟨v0, v1⟩ := a2
    have k1 : P' 1 = q4.1 := (a5 1 (by omega) (by omega)).trans d1
    have k2 : P' 2 = r := (a5 2 (by omega) (by omega)).trans d2
    have k3 : ∀ h, h < q4.1 → P' (3 + h) = P0 (3 + h) := fun h hh => a5 (3 + h) (by omega) (by omega)
    have hmd : mD (f_copies (p6.2.2.2.2.2.2 1) (p6.2.2.2.2.2.2 0) 0 0) P' := fun k hk => by rw [copies0 hk]; exact a1 k hk
    refine ⟨P', ?_, by rw [vu_self]; exact hmd, ?_, ?_, rfl⟩
    · unfold nOK nOKb
      rw [v0, k1, k2]
      exact ⟨a4, y4, by omega, d2', fun h hh => by rw [k3 h hh]; have := (d3 h hh).2; omega, fun u hu => (v1 u hu).2⟩
    · unfold cD
      rw [v0, k1, k2]
      refine ⟨rfl, rfl, b0, fun h hh => by rw [k3 h hh]; exact (d3 h hh).1, fun u hu => ?_⟩
      obtain ⟨⟨o1, o2, o3, o4, o5, o6, o7, o8⟩, -⟩ := v1 u hu
      refine ⟨o1, o2, o3, o4, o5, o6, o7, ?_⟩
      unfold f_fillI
      rw [fI_sp 4 u (by omega), o8]
      rfl
    · rw [hmd 0 (by omega), v0]
  · have w := pS_bad hl f1 hf
    obtain ⟨-, h1 | h1⟩ := f1
    · exact absurd h1.1 hf
    · rw [if_pos w] at hM
      subst hM
      dsimp only
      refine ⟨rfl, Or.inl ⟨hf, h1.2.1, by rw [h1.2.2], hk0, rfl⟩⟩
