def kR (pd k : Nat) (x4 x5 y3 y4 : Int32) : Prop := x4 = y3 ∧ ∃ a b, a ≤ k ∧ b ≤ k ∧ y3 = nI a ∧ ((x5 = nI b ∧ y4 = nI b) ∨ (x5 = nI (pd + b) ∧ y4 = nI (6 + b)))
theorem has_iff {x k : Int32} : f_Model_has x k = 0 ↔ ¬ ((x >>> (k &&& 31)) &&& (1 : Int32)) = (1 : Int32) := by
  unfold f_Model_has
  by_cases c : ((x >>> (k &&& 31)) &&& (1 : Int32)) = (1 : Int32)
  · rw [if_pos c]; exact ⟨fun h => absurd h (by decide), fun h => absurd c h⟩
  · rw [if_neg c]; exact ⟨fun _ => c, fun _ => rfl⟩
theorem mk_zero {f : Nat → Int32} {n1 : Nat} {x2 x3 x4 x5 : Int32} {k : Nat} (h : (f_Model_keeps_L44 f n1 x2 x3 x4 x5 k).1 = 0) : ∀ n, (f_Model_keeps_L44 f n1 x2 x3 x4 x5 (k + n)).1 = 0 := by
  intro n
  induction n with
  | zero => exact h
  | succ n ih =>
    show (f_Model_keeps_L44s f n1 x2 (k + n) ((f_Model_keeps_L44 f n1 x2 x3 x4 x5 (k + n)).1) ((f_Model_keeps_L44 f n1 x2 x3 x4 x5 (k + n)).2.1) ((f_Model_keeps_L44 f n1 x2 x3 x4 x5 (k + n)).2.2)).1 = 0
    rw [ih]
    unfold f_Model_keeps_L44s
    dsimp only
    rw [if_pos rfl, if_pos rfl]
    split <;> rfl
theorem nI_p1 {a : Nat} : nI a + (1 : Int32) = nI (a + 1) := by
  first
    | exact nI_succ a
    | exact (nI_succ a).symm
theorem nI_pz {a : Nat} (ha : a < 2 ^ 31) (z : ¬ nI a = (0 : Int32)) : (0 : Int32) < nI a := by
  have h : 0 < a := by
    rcases Nat.eq_zero_or_pos a with q | q
    · subst q
      exact absurd rfl z
    · exact q
  exact (nI_ltI (a := 0) (by omega) ha).mpr h
theorem keeps_L {H : Nat} {ups dow : Nat → Int32} {f : Nat → Int32} {u pu pd : Nat} {x : Int32} (hH : H ≤ 6) (hpu : pu ≤ 3) (hpd : pd ≤ 3) (e1 : ups u = nI pu) (e2 : dow u = nI pd) (e3 : f ((9 + (8 * u)) + 5) = nI pu) (e4 : f ((9 + (8 * u)) + 6) = nI pd) :
    ∀ n k y3 y4, n + k = H + 1 → k ≤ H → (f_Model_keeps_L44 f u x 1 0 (nI pd) k).1 = 1 → kR pd k (f_Model_keeps_L44 f u x 1 0 (nI pd) k).2.1 (f_Model_keeps_L44 f u x 1 0 (nI pd) k).2.2 y3 y4 →
      (match f_Day_keeps_L33 H ups dow u x n y3 y4 k with | .inr r => r | .inl (_, _, _) => (1 : Int32)) = (f_Model_keeps_L44 f u x 1 0 (nI pd) H).1 := by
  intro n
  induction n with
  | zero => intro k y3 y4 h1 h2 _ _; omega
  | succ n ih =>
    intro k y3 y4 h1 h2 hf hk
    by_cases c : k < H
    · have ih' := ih (k + 1)
      have hz := fun z => mk_zero (f := f) (n1 := u) (x2 := x) (x3 := 1) (x4 := 0) (x5 := nI pd) (k := k + 1) z (H - (k + 1))
      rw [show k + 1 + (H - (k + 1)) = H by omega] at hz
      have es : f_Model_keeps_L44 f u x 1 0 (nI pd) (k + 1) = f_Model_keeps_L44s f u x k ((f_Model_keeps_L44 f u x 1 0 (nI pd) k).1) ((f_Model_keeps_L44 f u x 1 0 (nI pd) k).2.1) ((f_Model_keeps_L44 f u x 1 0 (nI pd) k).2.2) := rfl
      rw [es, hf] at ih' hz
      revert ih' hz hk
      generalize (f_Model_keeps_L44 f u x 1 0 (nI pd) k).2.1 = x4
      generalize (f_Model_keeps_L44 f u x 1 0 (nI pd) k).2.2 = x5
      intro ⟨q0, a, b, ha, hb, qa, qb⟩ ih' hz
      subst q0
      have hd : y4 < nI pd ↔ x5 < nI pd := by
        rcases qb with ⟨q1, q2⟩ | ⟨q1, q2⟩
        · rw [q1, q2]
        · rw [q1, q2, nI_ltI (by omega) (by omega), nI_ltI (by omega) (by omega)]
          constructor <;> intro z <;> omega
      have hlt : nI k < nI H := (nI_ltI (by omega) (by omega)).mpr c
      unfold f_Day_keeps_L33
      rw [iteT hlt, e1, e2]
      unfold f_Model_keeps_L44s at ih' hz
      rw [e3, e4] at ih' hz
      dsimp only at ih' hz
      by_cases g : ((x >>> ((nI k) &&& 31)) &&& (1 : Int32)) = (1 : Int32)
      · have g2 : ¬ f_Model_has x (nI k) = 0 := fun z => has_iff.mp z g
        rw [if_neg g2, if_neg g2, if_neg g2, iteF (show ¬ (1 : Int32) = 0 by decide)] at ih'
        rw [if_neg g2, iteF (show ¬ (1 : Int32) = 0 by decide)] at hz
        rw [iteT g]
        have step : kR pd (k + 1) (x4 + 1) 0 (x4 + 1) 0 := ⟨rfl, a + 1, 0, by omega, by omega, by rw [qa, nI_p1], Or.inl ⟨rfl, rfl⟩⟩
        by_cases z : x4 = 0
        · rw [iteT z]
          have z2 : ¬ (0 : Int32) < x4 := by rw [z]; decide
          rw [iteF z2] at ih' hz
          by_cases w : y4 < nI pd
          · rw [iteT w]
            rw [iteT (hd.mp w)] at hz
            exact (hz rfl).symm
          · rw [iteF w]
            rw [iteF (fun v => w (hd.mpr v))] at ih'
            exact ih' _ _ (by omega) (by omega) rfl step
        · rw [iteF z]
          have z2 : (0 : Int32) < x4 := by
            rw [qa] at z ⊢
            exact nI_pz (by omega) z
          rw [iteT z2] at ih'
          exact ih' _ _ (by omega) (by omega) rfl step
      · have g2 : f_Model_has x (nI k) = 0 := has_iff.mpr g
        rw [if_pos g2, if_pos g2, if_pos g2, iteF (show ¬ (1 : Int32) = 0 by decide)] at ih'
        rw [if_pos g2, iteF (show ¬ (1 : Int32) = 0 by decide)] at hz
        rw [iteF g]
        have step : kR pd (k + 1) 0 (x5 + 1) 0 (y4 + 1) := by
          refine ⟨rfl, 0, b + 1, by omega, by omega, rfl, ?_⟩
          rcases qb with ⟨q1, q2⟩ | ⟨q1, q2⟩
          · exact Or.inl ⟨by rw [q1, nI_p1], by rw [q2, nI_p1]⟩
          · exact Or.inr ⟨by rw [q1, nI_p1, Nat.add_assoc], by rw [q2, nI_p1, Nat.add_assoc]⟩
        by_cases z : x4 = 0
        · have z2 : ¬ (0 : Int32) < x4 := by rw [z]; decide
          rw [iteF z2]
          rw [iteT z] at ih'
          exact ih' _ _ (by omega) (by omega) rfl step
        · have z2 : (0 : Int32) < x4 := by
            rw [qa] at z ⊢
            exact nI_pz (by omega) z
          rw [iteT z2]
          rw [iteF z] at ih' hz
          by_cases w : x4 < nI pu
          · rw [iteT w]
            rw [iteT w] at hz
            exact (hz rfl).symm
          · rw [iteF w]
            rw [iteF w] at ih'
            exact ih' _ _ (by omega) (by omega) rfl step
    · have hlt : ¬ nI k < nI H := fun z => c ((nI_ltI (by omega) (by omega)).mp z)
      unfold f_Day_keeps_L33
      rw [iteF hlt]
      have e : k = H := by omega
      subst e
      exact hf.symm
theorem mk_all {f : Nat → Int32} {u pd H : Nat} {x : Int32} (hpd : pd ≤ 3) (e4 : f ((9 + (8 * u)) + 6) = nI pd) (hH : H ≤ 6) (hx : ∀ k, k < H → ¬ f_Model_has x (nI k) = 0) : ∀ k, k ≤ H → (f_Model_keeps_L44 f u x 1 0 (nI pd) k).1 = 1 ∧ (f_Model_keeps_L44 f u x 1 0 (nI pd) k).2.1 = nI k ∧ (k = 0 → (f_Model_keeps_L44 f u x 1 0 (nI pd) k).2.2 = nI pd) := by
  intro k
  induction k with
  | zero => intro _; exact ⟨rfl, rfl, fun _ => rfl⟩
  | succ k ih =>
    intro h
    obtain ⟨i1, i2, i3⟩ := ih (by omega)
    have g := hx k (by omega)
    have es : f_Model_keeps_L44 f u x 1 0 (nI pd) (k + 1) = f_Model_keeps_L44s f u x k ((f_Model_keeps_L44 f u x 1 0 (nI pd) k).1) ((f_Model_keeps_L44 f u x 1 0 (nI pd) k).2.1) ((f_Model_keeps_L44 f u x 1 0 (nI pd) k).2.2) := rfl
    rw [es, i1, i2]
    unfold f_Model_keeps_L44s
    dsimp only
    rw [if_neg g, if_neg g, iteF (show ¬ (1 : Int32) = 0 by decide), e4]
    refine ⟨?_, nI_p1, fun z => absurd z (by omega)⟩
    by_cases c : (0 : Int32) < nI k
    · rw [if_pos c]
    · have k0 : k = 0 := by
        rcases Nat.eq_zero_or_pos k with q | q
        · exact q
        · exact absurd ((nI_ltI (a := 0) (by omega) (by omega)).mpr q) c
      rw [if_neg c, i3 k0, if_neg (fun z => Nat.lt_irrefl _ ((nI_ltI (by omega) (by omega)).mp z))]
theorem all_has : ((List.range 7).all fun H => (List.range H).all fun k => decide (¬ f_Model_has (f_Day_allHours H) (nI k) = 0)) = true := by decide +kernel
theorem keeps_eq {H : Nat} {kin ups dow : Nat → Int32} {f : Nat → Int32} {u pu pd : Nat} {x : Int32} (hH : H ≤ 6) (hpu : pu ≤ 3) (hpd : pd ≤ 3) (e1 : ups u = nI pu) (e2 : dow u = nI pd) (e3 : f ((9 + (8 * u)) + 5) = nI pu) (e4 : f ((9 + (8 * u)) + 6) = nI pd) (hk : kin u = 5 ↔ f (9 + (8 * u)) = 5) :
    f_Day_keeps H kin ups dow u x = f_Model_keeps f u x H := by
  have key := keeps_L (x := x) hH hpu hpd e1 e2 e3 e4 (H + 1) 0 0 6 (by omega) (by omega) rfl ⟨rfl, 0, 0, Nat.le_refl _, Nat.le_refl _, rfl, Or.inr ⟨rfl, rfl⟩⟩
  unfold f_Day_keeps f_Model_keeps f_Model_sortOf
  by_cases c : kin u = 5
  · rw [if_pos c, if_pos (hk.mp c), e4]
    show _ = if x = f_Day_allHours H then _ else _
    by_cases d : x = f_Day_allHours H
    · rw [if_pos d, if_pos d]
      have a1 := List.all_eq_true.mp all_has H (List.mem_range.mpr (by omega))
      refine (mk_all hpd e4 hH (fun k hk => ?_) H (Nat.le_refl _)).1.symm
      rw [d]
      exact of_decide_eq_true (List.all_eq_true.mp a1 k (List.mem_range.mpr hk))
    · rw [if_neg d, if_neg d]
  · rw [if_neg c, iteF (fun z => c (hk.mpr z)), e4]
    exact key
