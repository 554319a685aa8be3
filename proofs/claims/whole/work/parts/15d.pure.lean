def pS (k0 : Int32) (tape : Nat → Int32) (ln at_ : Nat) (fl fk fp : Int32) (mat mst : Nat) (tok mval : Int32) : Prop := at_ ≤ ln ∧ ((fl = 0 ∧ fp = -1 ∧ (mat, mst, tok, mval) = f_Model_advances tape ln at_ ∧ fk = k0) ∨ (¬ fl = 0 ∧ fk = fl ∧ fp = nI at_))
theorem well_1 : f_Model_isWell (-1) = 1 := by decide
theorem well_0 {a : Nat} (h : a < 2 ^ 31) : f_Model_isWell (nI a) = 0 := by
  unfold f_Model_isWell
  rw [if_neg (nI_nneg h)]
section TP2
variable {tape : Nat → Int32} {k0 : Int32} {ln at_ : Nat} {fl fk fp : Int32} {mat mst : Nat} {tok mval : Int32}
theorem pS_bad (hl : ln ≤ 120) (h : pS k0 tape ln at_ fl fk fp mat mst tok mval) (hf : ¬ fl = 0) : f_Model_isWell fp = 0 := by
  obtain ⟨h0, h1 | h1⟩ := h
  · exact absurd h1.1 hf
  · rw [h1.2.2]; exact well_0 (by omega)
theorem pS_good (h : pS k0 tape ln at_ fl fk fp mat mst tok mval) (hf : fl = 0) : fp = -1 ∧ f_Model_isWell fp = 1 ∧ (mat, mst, tok, mval) = f_Model_advances tape ln at_ := by
  obtain ⟨h0, h1 | h1⟩ := h
  · exact ⟨h1.2.1, by rw [h1.2.1]; exact well_1, h1.2.2.1⟩
  · exact absurd hf h1.1
theorem pS_k (h : pS k0 tape ln at_ fl fk fp mat mst tok mval) (hf : fl = 0) : fk = k0 := by
  obtain ⟨h0, h1 | h1⟩ := h
  · exact h1.2.2.2
  · exact absurd hf h1.1
theorem takes_bad {z kd : Int32} (hw : f_Model_isWell fp = 0) : f_Model_takes tape ln fk fp mat mst tok mval z kd = (0, fk, fp, mat, mst, tok, mval) := by
  unfold f_Model_takes
  rw [if_pos hw]
theorem takes_no {kd : Int32} (hw : f_Model_isWell fp = 1) : f_Model_takes tape ln fk fp mat mst tok mval 0 kd = (0, kd, nI mst, mat, mst, tok, mval) := by
  unfold f_Model_takes
  rw [hw, iteF (show ¬ (1 : Int32) = 0 by decide), iteT (show (0 : Int32) = 0 from rfl)]
theorem takes_yes {kd : Int32} (hw : f_Model_isWell fp = 1) : f_Model_takes tape ln fk fp mat mst tok mval 1 kd = (mval, fk, fp, (f_Model_advances tape ln mat).1, (f_Model_advances tape ln mat).2.1, (f_Model_advances tape ln mat).2.2.1, (f_Model_advances tape ln mat).2.2.2) := by
  unfold f_Model_takes
  rw [hw, iteF (show ¬ (1 : Int32) = 0 by decide), iteF (show ¬ (1 : Int32) = 0 by decide)]
theorem sign_step {sg z : Int32} {M : Int32 × Int32 × Int32 × Nat × Nat × Int32 × Int32} {C : Nat × Int32} (hl : ln ≤ 120) (hs : ¬ sg < 0) (h : pS k0 tape ln at_ fl fk fp mat mst tok mval)
    (hz : fl = 0 → (z = 1 ∧ f_Model_byteAt tape ln at_ = sg ∧ mat = at_ + 1) ∨ (z = 0 ∧ ¬ f_Model_byteAt tape ln at_ = sg)) (hC : f_Tape_readSign tape ln at_ fl sg = C) (hM : f_Model_takes tape ln fk fp mat mst tok mval z 1 = M) :
    pS k0 tape ln C.1 C.2 M.2.1 M.2.2.1 M.2.2.2.1 M.2.2.2.2.1 M.2.2.2.2.2.1 M.2.2.2.2.2.2 ∧ (C.2 = 0 → fl = 0) := by
  subst hC hM
  unfold f_Tape_readSign
  rw [nx_eq]
  by_cases hf : fl = 0
  · rw [if_pos hf]
    obtain ⟨g1, g2, g3⟩ := pS_good h hf
    obtain ⟨e1, -⟩ := adv_facts hl h.1 g3
    rcases hz hf with ⟨z1, z2, z3⟩ | ⟨z1, z2⟩
    · rw [z1, takes_yes g2, if_pos z2, if_pos z2, z3]
      have hlt : at_ < ln := b_lt (by have := h.1; omega) hl (by rw [z2]; exact hs)
      exact ⟨⟨hlt, Or.inl ⟨hf, g1, rfl, pS_k h hf⟩⟩, fun _ => hf⟩
    · rw [z1, takes_no g2, if_neg z2, if_neg z2, e1]
      exact ⟨⟨h.1, Or.inr ⟨(show ¬ (1 : Int32) = 0 by decide), rfl, rfl⟩⟩, fun _ => hf⟩
  · rw [if_neg hf, takes_bad (pS_bad hl h hf)]
    exact ⟨h, fun z => absurd z hf⟩
theorem stop_z (hl : ln ≤ 120) (h : pS k0 tape ln at_ fl fk fp mat mst tok mval) : fl = 0 → ((if tok = (4 : Int32) then (1 : Int32) else (0 : Int32)) = 1 ∧ f_Model_byteAt tape ln at_ = 59 ∧ mat = at_ + 1) ∨ ((if tok = (4 : Int32) then (1 : Int32) else (0 : Int32)) = 0 ∧ ¬ f_Model_byteAt tape ln at_ = 59) := by
  intro hf
  obtain ⟨g1, g2, g3⟩ := pS_good h hf
  obtain ⟨e1, e2, e3, e4, e5, e6, e7⟩ := adv_facts hl h.1 g3
  by_cases c : tok = 4
  · rw [if_pos c]; exact Or.inl ⟨rfl, e2.mp c, e6 (Or.inr (Or.inr c))⟩
  · rw [if_neg c]; exact Or.inr ⟨rfl, fun z => c (e2.mpr z)⟩
theorem comma_z (hl : ln ≤ 120) (h : pS k0 tape ln at_ fl fk fp mat mst tok mval) : fl = 0 → ((if tok = (3 : Int32) then (1 : Int32) else (0 : Int32)) = 1 ∧ f_Model_byteAt tape ln at_ = 44 ∧ mat = at_ + 1) ∨ ((if tok = (3 : Int32) then (1 : Int32) else (0 : Int32)) = 0 ∧ ¬ f_Model_byteAt tape ln at_ = 44) := by
  intro hf
  obtain ⟨g1, g2, g3⟩ := pS_good h hf
  obtain ⟨e1, e2, e3, e4, e5, e6, e7⟩ := adv_facts hl h.1 g3
  by_cases c : tok = 3
  · rw [if_pos c]; exact Or.inl ⟨rfl, e3.mp c, e6 (Or.inr (Or.inl c))⟩
  · rw [if_neg c]; exact Or.inr ⟨rfl, fun z => c (e3.mpr z)⟩
theorem letter_z {c : Int32} (hc : ¬ f_Model_in c 97 122 = 0) (hl : ln ≤ 120) (h : pS k0 tape ln at_ fl fk fp mat mst tok mval) : fl = 0 → ((if tok = (1 : Int32) then if mval = c then (1 : Int32) else (0 : Int32) else (0 : Int32)) = 1 ∧ f_Model_byteAt tape ln at_ = c ∧ mat = at_ + 1) ∨ ((if tok = (1 : Int32) then if mval = c then (1 : Int32) else (0 : Int32) else (0 : Int32)) = 0 ∧ ¬ f_Model_byteAt tape ln at_ = c) := by
  intro hf
  obtain ⟨g1, g2, g3⟩ := pS_good h hf
  obtain ⟨e1, e2, e3, e4, e5, e6, e7⟩ := adv_facts hl h.1 g3
  by_cases d : tok = 1
  · rw [if_pos d, e7 d]
    by_cases y : f_Model_byteAt tape ln at_ = c
    · rw [if_pos y]; exact Or.inl ⟨rfl, y, e6 (Or.inl d)⟩
    · rw [if_neg y]; exact Or.inr ⟨rfl, y⟩
  · rw [if_neg d]
    refine Or.inr ⟨rfl, fun z => ?_⟩
    rw [← z] at hc
    exact d (e4.mpr hc)
theorem num_step {b : Nat} {lo hi : Int32} {M : Int32 × Int32 × Int32 × Nat × Nat × Int32 × Int32} {C : Int32 × Nat × Int32} (hl : ln ≤ 120) (h : pS k0 tape ln at_ fl fk fp mat mst tok mval) (hlo : fl = 0 → ∃ a, a < 1000 ∧ lo = nI a) (hhi : hi = nI b) (hb : b < 1000) (hC : f_Tape_readNumber tape ln at_ fl lo hi = C) (hM : f_Model_figure tape ln fk fp mat mst tok mval lo hi = M) :
    pS k0 tape ln C.2.1 C.2.2 M.2.1 M.2.2.1 M.2.2.2.1 M.2.2.2.2.1 M.2.2.2.2.2.1 M.2.2.2.2.2.2 ∧ (C.2.2 = 0 → fl = 0) ∧ C.1 = M.1 ∧ (C.2.2 = 0 → ∃ a v, a < 1000 ∧ lo = nI a ∧ C.1 = nI v ∧ a ≤ v ∧ v ≤ b) := by
  subst hC hM
  unfold f_Tape_readNumber f_Model_figure
  by_cases hf : fl = 0
  · rw [if_pos hf]
    obtain ⟨g1, g2, g3⟩ := pS_good h hf
    obtain ⟨e1, e2, e3, e4, e5, e6, e7⟩ := adv_facts hl h.1 g3
    obtain ⟨a, ha, hlo2⟩ := hlo hf
    rw [g2, iteF (show ¬ (1 : Int32) = 0 by decide), fig_in, fig_in, fig_in]
    have key : ∀ V : Int32, ∀ k : Nat, k ≤ ln → mat = k → mval = V → tok = 2 →
        pS k0 tape ln (if V < lo then ((0 : Int32), at_, (2 : Int32)) else if hi < V then ((0 : Int32), at_, (2 : Int32)) else (V, k, fl)).2.1 (if V < lo then ((0 : Int32), at_, (2 : Int32)) else if hi < V then ((0 : Int32), at_, (2 : Int32)) else (V, k, fl)).2.2 (f_Model_takes tape ln fk fp mat mst tok mval (f_Model_in mval lo hi) 2).2.1 (f_Model_takes tape ln fk fp mat mst tok mval (f_Model_in mval lo hi) 2).2.2.1 (f_Model_takes tape ln fk fp mat mst tok mval (f_Model_in mval lo hi) 2).2.2.2.1 (f_Model_takes tape ln fk fp mat mst tok mval (f_Model_in mval lo hi) 2).2.2.2.2.1 (f_Model_takes tape ln fk fp mat mst tok mval (f_Model_in mval lo hi) 2).2.2.2.2.2.1 (f_Model_takes tape ln fk fp mat mst tok mval (f_Model_in mval lo hi) 2).2.2.2.2.2.2 ∧ ((if V < lo then ((0 : Int32), at_, (2 : Int32)) else if hi < V then ((0 : Int32), at_, (2 : Int32)) else (V, k, fl)).2.2 = 0 → fl = 0) ∧ (if V < lo then ((0 : Int32), at_, (2 : Int32)) else if hi < V then ((0 : Int32), at_, (2 : Int32)) else (V, k, fl)).1 = (f_Model_takes tape ln fk fp mat mst tok mval (f_Model_in mval lo hi) 2).1 ∧ ((if V < lo then ((0 : Int32), at_, (2 : Int32)) else if hi < V then ((0 : Int32), at_, (2 : Int32)) else (V, k, fl)).2.2 = 0 → ∃ a v, a < 1000 ∧ lo = nI a ∧ (if V < lo then ((0 : Int32), at_, (2 : Int32)) else if hi < V then ((0 : Int32), at_, (2 : Int32)) else (V, k, fl)).1 = nI v ∧ a ≤ v ∧ v ≤ b) := by
      intro V k hk h1 h2 h3
      rw [h2]
      unfold f_Model_in
      by_cases c1 : V < lo
      · rw [if_pos c1, if_pos c1, takes_no g2, e1]
        exact ⟨⟨h.1, Or.inr ⟨(show ¬ (2 : Int32) = 0 by decide), rfl, rfl⟩⟩, fun _ => hf, rfl, fun z => absurd z (show ¬ (2 : Int32) = 0 by decide)⟩
      · by_cases c2 : hi < V
        · rw [if_neg c1, if_pos c2, if_neg c1, if_pos c2, takes_no g2, e1]
          exact ⟨⟨h.1, Or.inr ⟨(show ¬ (2 : Int32) = 0 by decide), rfl, rfl⟩⟩, fun _ => hf, rfl, fun z => absurd z (show ¬ (2 : Int32) = 0 by decide)⟩
        · rw [if_neg c1, if_neg c2, if_neg c1, if_neg c2, takes_yes g2, h1]
          refine ⟨⟨hk, Or.inl ⟨hf, g1, rfl, pS_k h hf⟩⟩, fun _ => hf, rfl, fun _ => ?_⟩
          rw [hlo2] at c1
          rw [hhi] at c2
          have k1 : ¬ V.toInt < (nI a).toInt := fun z => c1 (Int32.lt_iff_toInt_lt.mpr z)
          have k2 : ¬ (nI b).toInt < V.toInt := fun z => c2 (Int32.lt_iff_toInt_lt.mpr z)
          have t : ∀ n : Nat, n < 2000 → (nI n).toInt = (n : Int) := fun n hn => by
            have := pk_sub_toInt (a := n) (b := 0) (by omega) (by omega)
            rw [pk_sub (Nat.zero_le _), Nat.sub_zero] at this
            omega
          have ta := t a (by omega)
          have tb := t b (by omega)
          have tb1 := t (b + 1) (by omega)
          have p0 : ¬ V < 0 := fun z => by
            have := Int32.lt_iff_toInt_lt.mp z
            have e0 : (0 : Int32).toInt = 0 := by decide
            omega
          obtain ⟨v, hv, rfl⟩ := lt_nat (N := b + 1) (by omega) p0 (Int32.lt_iff_toInt_lt.mpr (by omega))
          have tv := t v (by omega)
          exact ⟨a, v, ha, hlo2, rfl, by omega, by omega⟩
    by_cases c0 : f_Model_in (f_Model_byteAt tape ln at_) 48 57 = 0
    · rw [if_pos c0]
      have htok : ¬ tok = 2 := by
        rw [adv_0 c0] at g3
        simp only [Prod.mk.injEq] at g3
        rw [g3.2.2.1]
        unfold tkO
        (repeat' split) <;> decide
      rw [if_neg htok]
      dsimp only
      rw [takes_no g2, e1]
      exact ⟨⟨h.1, Or.inr ⟨by decide, rfl, rfl⟩⟩, fun _ => hf, rfl, fun z => absurd z (by decide)⟩
    · rw [if_neg c0]
      obtain ⟨a1, a2, a3⟩ := adv_1 hl h.1 c0
      have hlt : at_ < ln := b_lt (by have := h.1; omega) hl (dg_pos c0).1
      have eb : tape at_ = f_Model_byteAt tape ln at_ := by
        unfold f_Model_byteAt
        rw [if_pos (nI_lt hlt (by omega))]
      by_cases c1 : f_Model_in (f_Model_byteAt tape ln (at_ + 1)) 48 57 = 0
      · rw [if_pos c1, if_pos c1, if_pos c1]
        rw [a1 c1] at g3
        simp only [Prod.mk.injEq] at g3
        obtain ⟨q1, q2, q3, q4⟩ := g3
        rw [if_pos q3, eb]
        exact key _ (at_ + 1) (by omega) q1 q4 q3
      · have hlt2 : at_ + 1 < ln := b_lt (by omega) hl (dg_pos c1).1
        have eb2 : tape (at_ + 1) = f_Model_byteAt tape ln (at_ + 1) := by
          unfold f_Model_byteAt
          rw [if_pos (nI_lt hlt2 (by omega))]
        rw [if_neg c1]
        by_cases c2 : f_Model_in (f_Model_byteAt tape ln (at_ + 2)) 48 57 = 0
        · rw [if_pos c2, if_neg c1, if_neg c1]
          rw [a2 c1 c2] at g3
          simp only [Prod.mk.injEq] at g3
          obtain ⟨q1, q2, q3, q4⟩ := g3
          rw [if_pos q3, eb, eb2]
          exact key _ (at_ + 2) (by omega) q1 q4 q3
        · rw [if_neg c2]
          obtain ⟨m, v, e⟩ := a3 c1 c2
          rw [e] at g3
          simp only [Prod.mk.injEq] at g3
          have htok : ¬ tok = 2 := by rw [g3.2.2.1]; decide
          rw [if_neg htok]
          dsimp only
          rw [takes_no g2, e1]
          exact ⟨⟨h.1, Or.inr ⟨by decide, rfl, rfl⟩⟩, fun _ => hf, rfl, fun z => absurd z (by decide)⟩
  · have hb2 := pS_bad hl h hf
    rw [if_neg hf, if_pos hb2]
    dsimp only
    rw [takes_bad hb2]
    exact ⟨h, fun z => absurd z hf, rfl, fun z => absurd z hf⟩
theorem must_bad {z : Int32} (hw : f_Model_isWell fp = 0) : f_Model_must tape ln fk fp mat mst tok mval z = (fk, fp, mat, mst, tok, mval) := by
  unfold f_Model_must
  rw [if_pos hw]
theorem must_no (hw : f_Model_isWell fp = 1) : f_Model_must tape ln fk fp mat mst tok mval 0 = (1, nI mst, mat, mst, tok, mval) := by
  unfold f_Model_must
  rw [hw, iteF (show ¬ (1 : Int32) = 0 by decide), iteT (show (0 : Int32) = 0 from rfl), takes_no hw]
theorem must_yes (hw : f_Model_isWell fp = 1) : f_Model_must tape ln fk fp mat mst tok mval 1 = (fk, fp, mat, mst, tok, mval) := by
  unfold f_Model_must
  rw [hw, iteF (show ¬ (1 : Int32) = 0 by decide), iteF (show ¬ (1 : Int32) = 0 by decide)]
end TP2
