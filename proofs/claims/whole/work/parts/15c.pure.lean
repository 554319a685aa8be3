section TP
variable {tape : Nat → Int32} {ln : Nat}
theorem in01 {v a b : Int32} : f_Model_in v a b = 0 ∨ f_Model_in v a b = 1 := by
  unfold f_Model_in
  (repeat' split) <;> first | exact Or.inl rfl | exact Or.inr rfl
theorem fig_in {p : Nat} : f_Tape_isFigure tape ln p = f_Model_in (f_Model_byteAt tape ln p) 48 57 := by
  unfold f_Tape_isFigure f_Model_in f_Model_byteAt
  by_cases c : nI p < nI ln
  · rw [if_pos c, if_pos c]
  · rw [if_neg c, if_neg c, iteT (show (-1 : Int32) < 48 by decide)]
theorem nx_eq {p : Nat} : f_Tape_next tape ln p = f_Model_byteAt tape ln p := rfl
theorem b_lt {p : Nat} (hp : p < 2 ^ 31) (hl : ln ≤ 120) (h : ¬ f_Model_byteAt tape ln p < 0) : p < ln := by
  unfold f_Model_byteAt at h
  by_cases c : nI p < nI ln
  · exact nI_ltX c hp (by omega)
  · rw [if_neg c] at h
    exact absurd (show (-1 : Int32) < 0 by decide) h
theorem dg_pos {b : Int32} (h : ¬ f_Model_in b 48 57 = 0) : ¬ b < 0 ∧ ¬ b = 44 ∧ ¬ b = 59 ∧ f_Model_in b 97 122 = 0 ∧ f_Tape_kindOfSort b = 0 ∧ ¬ b = 104 := by
  have h1 : ¬ b < 48 := fun z => h (by unfold f_Model_in; rw [if_pos z])
  have h2 : ¬ 57 < b := fun z => h (by unfold f_Model_in; rw [if_neg h1, if_pos z])
  have k1 : ¬ b.toInt < 48 := fun z => h1 (Int32.lt_iff_toInt_lt.mpr z)
  have k2 : ¬ (57 : Int) < b.toInt := fun z => h2 (Int32.lt_iff_toInt_lt.mpr z)
  have ne : ∀ c : Int32, (c.toInt < 48 ∨ 57 < c.toInt) → ¬ b = c := fun c hc e => by rw [e] at k1 k2; omega
  refine ⟨fun z => ?_, ne 44 (by decide), ne 59 (by decide), ?_, ?_, ne 104 (by decide)⟩
  · have := Int32.lt_iff_toInt_lt.mp z
    have e : (0 : Int32).toInt = 0 := by decide
    omega
  · unfold f_Model_in
    refine if_pos (Int32.lt_iff_toInt_lt.mpr ?_)
    have e : (97 : Int32).toInt = 97 := by decide
    omega
  · unfold f_Tape_kindOfSort
    rw [if_neg (ne 112 (by decide)), if_neg (ne 113 (by decide)), if_neg (ne 114 (by decide)), if_neg (ne 115 (by decide)), if_neg (ne 116 (by decide)), if_neg (ne 117 (by decide)), if_neg (ne 118 (by decide)), if_neg (ne 119 (by decide))]
theorem L38_ge {s : Nat} : ∀ n m v, m ≤ (f_Model_advances_L38 tape ln s n m v).1 := by
  intro n
  induction n with
  | zero => intro m v; exact Nat.le_refl _
  | succ n ih =>
    intro m v
    rw [f_Model_advances_L38]
    split
    · exact Nat.le_refl _
    · exact Nat.le_trans (Nat.le_succ m) (ih _ _)
def tkO (b : Int32) : Int32 := if b < (0 : Int32) then (0 : Int32) else if (f_Model_in b (97 : Int32) (122 : Int32)) = (0 : Int32) then if b = (44 : Int32) then (3 : Int32) else if b = (59 : Int32) then (4 : Int32) else (5 : Int32) else (1 : Int32)
theorem adv_0 {p : Nat} (h : f_Model_in (f_Model_byteAt tape ln p) 48 57 = 0) : f_Model_advances tape ln p = (p + (if tkO (f_Model_byteAt tape ln p) = 0 then 0 else 1), p, tkO (f_Model_byteAt tape ln p), f_Model_byteAt tape ln p) := by
  unfold f_Model_advances
  rw [if_pos h]
  rfl
theorem adv_1 {p : Nat} (hl : ln ≤ 120) (hp : p ≤ ln) (h : ¬ f_Model_in (f_Model_byteAt tape ln p) 48 57 = 0) :
    (f_Model_in (f_Model_byteAt tape ln (p + 1)) 48 57 = 0 → f_Model_advances tape ln p = (p + 1, p, 2, f_Model_byteAt tape ln p - 48)) ∧
    (¬ f_Model_in (f_Model_byteAt tape ln (p + 1)) 48 57 = 0 → f_Model_in (f_Model_byteAt tape ln (p + 2)) 48 57 = 0 → f_Model_advances tape ln p = (p + 2, p, 2, ((f_Model_byteAt tape ln p - 48) * 10 + f_Model_byteAt tape ln (p + 1)) - 48)) ∧
    (¬ f_Model_in (f_Model_byteAt tape ln (p + 1)) 48 57 = 0 → ¬ f_Model_in (f_Model_byteAt tape ln (p + 2)) 48 57 = 0 → ∃ m v, f_Model_advances tape ln p = (m, p, 5, v)) := by
  have hpl : p < ln := b_lt (by omega) hl (dg_pos h).1
  unfold f_Model_advances
  rw [if_neg h]
  obtain ⟨t, ht⟩ : ∃ t, ln = t + 1 := ⟨ln - 1, by omega⟩
  have e1 : f_Model_advances_L38 tape ln p (ln + 1) p 0 = f_Model_advances_L38 tape ln p ln (p + 1) (f_Model_byteAt tape ln p - 48) := by
    rw [f_Model_advances_L38, if_neg h, Nat.sub_self, iteT (show nI 0 < (2 : Int32) by decide), Int32.mul_zero, Int32.zero_add]
  have e2 : ¬ f_Model_in (f_Model_byteAt tape ln (p + 1)) 48 57 = 0 → f_Model_advances_L38 tape ln p (ln + 1) p 0 = f_Model_advances_L38 tape ln p t (p + 2) (((f_Model_byteAt tape ln p - 48) * 10 + f_Model_byteAt tape ln (p + 1)) - 48) := by
    intro h2
    rw [e1]
    have : f_Model_advances_L38 tape ln p ln (p + 1) (f_Model_byteAt tape ln p - 48) = f_Model_advances_L38 tape ln p (t + 1) (p + 1) (f_Model_byteAt tape ln p - 48) := by rw [← ht]
    rw [this, f_Model_advances_L38, if_neg h2, Nat.add_sub_cancel_left, iteT (show nI 1 < (2 : Int32) by decide), Int32.mul_comm]
  refine ⟨fun h2 => ?_, fun h2 h3 => ?_, fun h2 h3 => ?_⟩
  · dsimp only
    rw [e1]
    have : f_Model_advances_L38 tape ln p ln (p + 1) (f_Model_byteAt tape ln p - 48) = f_Model_advances_L38 tape ln p (t + 1) (p + 1) (f_Model_byteAt tape ln p - 48) := by rw [← ht]
    rw [this, f_Model_advances_L38, if_pos h2]
    dsimp only
    rw [Nat.add_sub_cancel_left, iteT (show nI 1 < (3 : Int32) by decide)]
  · have hpl2 : p + 1 < ln := b_lt (by omega) hl (dg_pos h2).1
    obtain ⟨t2, rfl⟩ : ∃ t2, t = t2 + 1 := ⟨t - 1, by omega⟩
    dsimp only
    rw [e2 h2, f_Model_advances_L38, if_pos h3]
    dsimp only
    rw [Nat.add_sub_cancel_left, iteT (show nI 2 < (3 : Int32) by decide)]
  · have hpl2 : p + 1 < ln := b_lt (by omega) hl (dg_pos h2).1
    have hpl3 : p + 2 < ln := b_lt (by omega) hl (dg_pos h3).1
    obtain ⟨t2, rfl⟩ : ∃ t2, t = t2 + 1 := ⟨t - 1, by omega⟩
    dsimp only
    rw [e2 h2, f_Model_advances_L38, if_neg h3]
    generalize hq : f_Model_advances_L38 tape ln p t2 (p + 2 + 1) _ = q
    have hge := L38_ge (tape := tape) (ln := ln) (s := p) t2 (p + 2 + 1) (if nI (p + 2 - p) < 2 then 10 * ((f_Model_byteAt tape ln p - 48) * 10 + f_Model_byteAt tape ln (p + 1) - 48) + f_Model_byteAt tape ln (p + 2) - 48 else (f_Model_byteAt tape ln p - 48) * 10 + f_Model_byteAt tape ln (p + 1) - 48)
    rw [hq] at hge
    have hle : q.1 ≤ ln := by
      rw [← hq]
      exact advances_L_le hl _ _ _ (by omega)
    have hn : ¬ nI (q.1 - p) < (3 : Int32) := nI_nlt (b := 3) (by omega) (by omega)
    rw [if_neg hn]
    exact ⟨q.1, q.2, rfl⟩
theorem adv_facts {p mat mst : Nat} {tok mval : Int32} (hl : ln ≤ 120) (hp : p ≤ ln) (h : (mat, mst, tok, mval) = f_Model_advances tape ln p) : mst = p ∧ (tok = 4 ↔ f_Model_byteAt tape ln p = 59) ∧ (tok = 3 ↔ f_Model_byteAt tape ln p = 44) ∧ (tok = 1 ↔ ¬ f_Model_in (f_Model_byteAt tape ln p) 97 122 = 0) ∧ (tok = 0 ↔ f_Model_byteAt tape ln p < 0) ∧ ((tok = 1 ∨ tok = 3 ∨ tok = 4) → mat = p + 1) ∧ (tok = 1 → mval = f_Model_byteAt tape ln p) := by
  by_cases c : f_Model_in (f_Model_byteAt tape ln p) 48 57 = 0
  · rw [adv_0 c] at h
    simp only [Prod.mk.injEq] at h
    obtain ⟨h1, h2, h3, h4⟩ := h
    unfold tkO at h3
    rw [h1, h2, h4]
    generalize f_Model_byteAt tape ln p = b at h3 ⊢
    have n59 : ¬ (59 : Int32) < 0 := by decide
    have n44 : ¬ (44 : Int32) < 0 := by decide
    by_cases c1 : b < 0
    · rw [if_pos c1] at h3
      subst h3
      refine ⟨rfl, ⟨fun z => absurd z (by decide), fun z => by rw [z] at c1; exact absurd c1 n59⟩, ⟨fun z => absurd z (by decide), fun z => by rw [z] at c1; exact absurd c1 n44⟩, ⟨fun z => absurd z (by decide), fun z => ?_⟩, ⟨fun _ => c1, fun _ => rfl⟩, fun z => ?_, fun _ => rfl⟩
      · refine absurd ?_ z
        unfold f_Model_in
        refine if_pos (Int32.lt_iff_toInt_lt.mpr ?_)
        have := Int32.lt_iff_toInt_lt.mp c1
        have e : (97 : Int32).toInt = 97 := by decide
        have e0 : (0 : Int32).toInt = 0 := by decide
        omega
      · rcases z with z | z | z <;> exact absurd z (by decide)
    · by_cases c2 : f_Model_in b 97 122 = 0
      · by_cases c3 : b = 44
        · rw [if_neg c1, if_pos c2, if_pos c3] at h3
          subst h3
          refine ⟨rfl, ⟨fun z => absurd z (by decide), fun z => by rw [z] at c3; exact absurd c3 (by decide)⟩, ⟨fun _ => c3, fun _ => rfl⟩, ⟨fun z => absurd z (by decide), fun z => absurd c2 z⟩, ⟨fun z => absurd z (by decide), fun z => absurd z c1⟩, fun _ => ?_, fun _ => rfl⟩
          subst c3
          rfl
        · by_cases c4 : b = 59
          · rw [if_neg c1, if_pos c2, if_neg c3, if_pos c4] at h3
            subst h3
            refine ⟨rfl, ⟨fun _ => c4, fun _ => rfl⟩, ⟨fun z => absurd z (by decide), fun z => absurd z c3⟩, ⟨fun z => absurd z (by decide), fun z => absurd c2 z⟩, ⟨fun z => absurd z (by decide), fun z => absurd z c1⟩, fun _ => ?_, fun _ => rfl⟩
            subst c4
            rfl
          · rw [if_neg c1, if_pos c2, if_neg c3, if_neg c4] at h3
            subst h3
            refine ⟨rfl, ⟨fun z => absurd z (by decide), fun z => absurd z c4⟩, ⟨fun z => absurd z (by decide), fun z => absurd z c3⟩, ⟨fun z => absurd z (by decide), fun z => absurd c2 z⟩, ⟨fun z => absurd z (by decide), fun z => absurd z c1⟩, fun z => ?_, fun _ => rfl⟩
            rcases z with z | z | z <;> exact absurd z (by decide)
      · rw [if_neg c1, if_neg c2] at h3
        subst h3
        refine ⟨rfl, ⟨fun z => absurd z (by decide), fun z => by rw [z] at c2; exact absurd (by decide) c2⟩, ⟨fun z => absurd z (by decide), fun z => by rw [z] at c2; exact absurd (by decide) c2⟩, ⟨fun _ => c2, fun _ => rfl⟩, ⟨fun z => absurd z (by decide), fun z => absurd z c1⟩, fun _ => ?_, fun _ => rfl⟩
        have : ¬ tkO b = 0 := by
          unfold tkO
          rw [if_neg c1, if_neg c2]
          decide
        rw [if_neg this]
  · obtain ⟨d1, d2, d3, d4, d5, d6⟩ := dg_pos c
    have hk : ∃ m v t, f_Model_advances tape ln p = (m, p, t, v) ∧ (t = 2 ∨ t = 5) := by
      obtain ⟨a1, a2, a3⟩ := adv_1 hl hp c
      by_cases e1 : f_Model_in (f_Model_byteAt tape ln (p + 1)) 48 57 = 0
      · exact ⟨_, _, _, a1 e1, Or.inl rfl⟩
      · by_cases e2 : f_Model_in (f_Model_byteAt tape ln (p + 2)) 48 57 = 0
        · exact ⟨_, _, _, a2 e1 e2, Or.inl rfl⟩
        · obtain ⟨m, v, e⟩ := a3 e1 e2
          exact ⟨m, v, 5, e, Or.inr rfl⟩
    obtain ⟨m, v, t, e, ht⟩ := hk
    rw [e] at h
    simp only [Prod.mk.injEq] at h
    obtain ⟨h1, h2, h3, h4⟩ := h
    rw [h2, h3]
    have n4 : ¬ t = 4 := by rcases ht with z | z <;> rw [z] <;> decide
    have n3 : ¬ t = 3 := by rcases ht with z | z <;> rw [z] <;> decide
    have n1 : ¬ t = 1 := by rcases ht with z | z <;> rw [z] <;> decide
    have n0 : ¬ t = 0 := by rcases ht with z | z <;> rw [z] <;> decide
    exact ⟨rfl, ⟨fun z => absurd z n4, fun z => absurd z d3⟩, ⟨fun z => absurd z n3, fun z => absurd z d2⟩, ⟨fun z => absurd z n1, fun z => absurd d4 z⟩, ⟨fun z => absurd z n0, fun z => absurd z d1⟩, fun z => by rcases z with z | z | z <;> first | exact absurd z n1 | exact absurd z n3 | exact absurd z n4, fun z => absurd z n1⟩
end TP
