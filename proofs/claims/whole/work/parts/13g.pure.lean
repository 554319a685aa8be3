theorem has_1 {x k : Int32} (g : ((x >>> (k &&& 31)) &&& (1 : Int32)) = (1 : Int32)) : f_Model_has x k = 1 := by
  unfold f_Model_has
  rw [if_pos g]
theorem isMet_eq {f : Nat → Int32} {U h : Nat} {res de x y : Int32} {hig pri flo sro sco : Nat → Int32} {fl hi sr pr sc : Nat → Nat} (hd : f (3 + h) = de) (hr : f 2 = res) (hu : uOK f hig pri flo sro sco fl hi sr pr sc U) : f_Day_isMet U res hig flo sro de x y = f_Model_isMet f h x y U := by
  have k1 : ∀ k, k ≤ U → f_Day_floorsOf_L4 flo x 0 k = f_Model_sumOf_L6 f x y 0 0 k := by
    intro k
    induction k with
    | zero => intro _; rfl
    | succ k ih =>
      intro hk
      obtain ⟨⟨a1, -, -, -, -⟩, ⟨b1, -, -, -, -⟩, -⟩ := hu k (by omega)
      show f_Day_floorsOf_L4s flo x k (f_Day_floorsOf_L4 flo x 0 k) = f_Model_sumOf_L6s f x y 0 k (f_Model_sumOf_L6 f x y 0 0 k)
      unfold f_Day_floorsOf_L4s f_Model_sumOf_L6s
      rw [ih (by omega)]
      by_cases g : ((x >>> ((nI k) &&& 31)) &&& (1 : Int32)) = (1 : Int32)
      · rw [if_pos g, has_1 g, iteF (show ¬ (1 : Int32) = 0 by decide), iteT (show (0 : Int32) = 0 from rfl), a1, b1]
      · rw [if_neg g, if_pos (has_iff.mpr g), Int32.add_zero]
  have k2 : ∀ k, k ≤ U → f_Day_roofsOf_L5 hig sro x y 0 k = f_Model_sumOf_L6 f x y 1 0 k := by
    intro k
    induction k with
    | zero => intro _; rfl
    | succ k ih =>
      intro hk
      obtain ⟨⟨-, a2, a3, -, -⟩, ⟨-, -, b3, b4, -⟩, -⟩ := hu k (by omega)
      show f_Day_roofsOf_L5s hig sro x y k (f_Day_roofsOf_L5 hig sro x y 0 k) = f_Model_sumOf_L6s f x y 1 k (f_Model_sumOf_L6 f x y 1 0 k)
      unfold f_Day_roofsOf_L5s f_Model_sumOf_L6s
      rw [ih (by omega)]
      by_cases g : ((x >>> ((nI k) &&& 31)) &&& (1 : Int32)) = (1 : Int32)
      · rw [if_pos g, has_1 g, iteF (show ¬ (1 : Int32) = 0 by decide), iteF (show ¬ (1 : Int32) = 0 by decide)]
        by_cases q : ((y >>> ((nI k) &&& 31)) &&& (1 : Int32)) = (1 : Int32)
        · rw [if_pos q, has_1 q, a3, b4]
        · rw [if_neg q, has_iff.mpr q, a2, b3]
      · rw [if_neg g, if_pos (has_iff.mpr g), Int32.add_zero]
  have e1 : f_Day_floorsOf U flo x = f_Model_sumOf f x y 0 U := k1 U (Nat.le_refl _)
  have e2 : f_Day_roofsOf U hig sro x y = f_Model_sumOf f x y 1 U := k2 U (Nat.le_refl _)
  unfold f_Day_isMet f_Model_isMet
  rw [e1, e2, hd, hr]
