theorem floors_eq {f : Nat → Int32} {U : Nat} {x y : Int32} {hig pri flo sro sco : Nat → Int32} {fl hi sr pr sc : Nat → Nat} (hu : uOK f hig pri flo sro sco fl hi sr pr sc U) : f_Day_floorsOf U flo x = f_Model_sumOf f x y 0 U := by
  have k1 : ∀ k, k ≤ U → f_Day_floorsOf_L4 flo x 0 k = f_Model_sumOf_L6 f x y 0 0 k := by
    intro k
    induction k with
    | zero => intro _; rfl
    | succ k ih =>
      intro hk
      obtain ⟨⟨a1, -, -, -, -⟩, ⟨b1, -, -, -, -⟩, -⟩ := hu k (by omega)
      show f_Day_floorsOf_L4s flo x k (f_Day_floorsOf_L4 flo x 0 k) = f_Model_sumOf_L6s f x y 0 k (f_Model_sumOf_L6 f x y 0 0 k)
      unfold f_Day_floorsOf_L4s f_Model_sumOf_L6s
      rw [ih (by omega)]
      by_cases g : ((x >>> ((nI k) &&& 31)) &&& (1 : Int32)) = (1 : Int32)
      · rw [if_pos g, has_1 g, iteF (show ¬ (1 : Int32) = 0 by decide), iteT (show (0 : Int32) = 0 from rfl), a1, b1]
      · rw [if_neg g, if_pos (has_iff.mpr g), Int32.add_zero]
  exact k1 U (Nat.le_refl _)
theorem roofs_eq {f : Nat → Int32} {U : Nat} {x y : Int32} {hig pri flo sro sco : Nat → Int32} {fl hi sr pr sc : Nat → Nat} (hu : uOK f hig pri flo sro sco fl hi sr pr sc U) : f_Day_roofsOf U hig sro x y = f_Model_sumOf f x y 1 U := by
  have k2 : ∀ k, k ≤ U → f_Day_roofsOf_L5 hig sro x y 0 k = f_Model_sumOf_L6 f x y 1 0 k := by
    intro k
    induction k with
    | zero => intro _; rfl
    | succ k ih =>
      intro hk
      obtain ⟨⟨-, a2, a3, -, -⟩, ⟨-, -, b3, b4, -⟩, -⟩ := hu k (by omega)
      show f_Day_roofsOf_L5s hig sro x y k (f_Day_roofsOf_L5 hig sro x y 0 k) = f_Model_sumOf_L6s f x y 1 k (f_Model_sumOf_L6 f x y 1 0 k)
      unfold f_Day_roofsOf_L5s f_Model_sumOf_L6s
      rw [ih (by omega)]
      by_cases g : ((x >>> ((nI k) &&& 31)) &&& (1 : Int32)) = (1 : Int32)
      · rw [if_pos g, has_1 g, iteF (show ¬ (1 : Int32) = 0 by decide), iteF (show ¬ (1 : Int32) = 0 by decide)]
        by_cases q : ((y >>> ((nI k) &&& 31)) &&& (1 : Int32)) = (1 : Int32)
        · rw [if_pos q, has_1 q, a3, b4]
        · rw [if_neg q, has_iff.mpr q, a2, b3]
      · rw [if_neg g, if_pos (has_iff.mpr g), Int32.add_zero]
  exact k2 U (Nat.le_refl _)
theorem bkt_pre {p : Nat → Nat} {q v : Nat} (hv : p v = q) : ∀ m, ∃ B, bkt p q (v + 1 + m) = bkt p q v ++ (v :: B) := by
  intro m
  induction m with
  | zero => exact ⟨[], by rw [Nat.add_zero, bkt_succ, if_pos hv]⟩
  | succ m ih =>
    obtain ⟨B, e⟩ := ih
    refine ⟨B ++ (if p (v + 1 + m) = q then [v + 1 + m] else []), ?_⟩
    rw [← Nat.add_assoc, bkt_succ, e, List.append_assoc]
    rfl
def preL (p : Nat → Nat) (n v : Nat) : List Nat := BL p n (p v - 1) ++ bkt p (p v) v
theorem BL_pre {p : Nat → Nat} {n v : Nat} (hv : v < n) (h1 : 1 ≤ p v) (h2 : p v ≤ 9) : ∃ B, BL p n 9 = preL p n v ++ (v :: B) := by
  obtain ⟨B, e⟩ := bkt_pre (p := p) (v := v) rfl (n - (v + 1))
  rw [show v + 1 + (n - (v + 1)) = n by omega] at e
  obtain ⟨t, ht⟩ : ∃ t, p v = t + 1 := ⟨p v - 1, by omega⟩
  have e2 : BL p n (p v) = preL p n v ++ (v :: B) := by
    unfold preL
    rw [List.append_assoc, ← e]
    rw [ht]
    rfl
  have e3 := BL_split (p := p) (n := n) (a := p v) (9 - p v)
  rw [show p v + (9 - p v) = 9 by omega, e2, List.append_assoc] at e3
  exact ⟨B ++ BS p n (p v) (9 - p v), e3⟩
theorem preL_no {p : Nat → Nat} {n v w : Nat} (h1 : 1 ≤ p v) (h : w ∈ preL p n v) : w ≠ v := by
  intro e
  subst e
  rcases List.mem_append.mp h with z | z
  · have := (mem_BL _ z).2; omega
  · have := (mem_bkt z).1; omega
section GV
variable {W : Nat → Nat → Int32} {wi U x y : Nat} {fl hi sr pr sc : Nat → Nat}
theorem L100_g (hx : x < 2 ^ 31) (hy : y < 2 ^ 31) (hU : U ≤ 4) {q L C : Nat} (hq : q < 100) (hL : L ≤ 1000) {g : Nat → Int32} (hu : ∀ u, u < U → f_Model_roof (W wi) u 0 = nI (hi u) ∧ f_Model_roof (W wi) u 1 = nI (sr u) ∧ (W wi) ((9 + (8 * u)) + 3) = nI (pr u) ∧ pr u < 100 ∧ fl u ≤ hi u ∧ fl u ≤ sr u ∧ hi u ≤ 1000 ∧ sr u ≤ 1000) (hg : ∀ u, u < U → bt_ x u = true → pr u = q → g u = nI (fl u)) {v : Nat} (hb : bt_ x v = true) (hpq : pr v = q) :
    ∀ m, v + 1 + m ≤ U → (f_Model_shares_L100 W wi (nI x) (nI y) q (nI L) (nI C) g (v + 1 + m)).2.2 v = nI (fl v + min ((bkt pr q v).foldl (stM x fl (rfN y hi sr) pr) (L, C)).1 (rfN y hi sr v - fl v)) := by
  intro m
  induction m with
  | zero =>
    intro hk
    rw [Nat.add_zero] at hk ⊢
    obtain ⟨g', i1, i2, i3⟩ := L100_eq (W := W) (wi := wi) (fl := fl) (hi := hi) (sr := sr) (pr := pr) hx hy hU (q := q) (L := L) (C := C) hq hL hu hg v (by omega)
    obtain ⟨a2, a3, a4, a5, a6, a7, a8, a9⟩ := hu v (by omega)
    have er := roof_eq (y := y) (hi := hi) (sr := sr) hy (show v < 31 by omega) a2 a3
    have e : f_Model_shares_L100 W wi (nI x) (nI y) q (nI L) (nI C) g (v + 1) = f_Model_shares_L100s W wi (nI x) (nI y) q v (f_Model_shares_L100 W wi (nI x) (nI y) q (nI L) (nI C) g v).1 (f_Model_shares_L100 W wi (nI x) (nI y) q (nI L) (nI C) g v).2.1 (f_Model_shares_L100 W wi (nI x) (nI y) q (nI L) (nI C) g v).2.2 := rfl
    rw [e, i1]
    dsimp only
    generalize (bkt pr q v).foldl (stM x fl (rfN y hi sr) pr) (L, C) = s at i2
    obtain ⟨s1, s2⟩ := s
    dsimp only at i2 ⊢
    unfold f_Model_shares_L100s
    rw [er, a4]
    have hn : ¬ f_Model_has (nI x) (nI v) = (0 : Int32) := fun z => by rw [(has0 hx (by omega)).mp z] at hb; cases hb
    have hgk : g' v = nI (fl v) := (i3 v (Or.inr (Nat.le_refl _))).trans (hg v (by omega) hb hpq)
    have hrf : fl v ≤ rfN y hi sr v ∧ rfN y hi sr v ≤ 1000 := by unfold rfN; split <;> omega
    have em : (if nI (rfN y hi sr v - fl v) < nI s1 then nI (rfN y hi sr v - fl v) else nI s1) = nI (min s1 (rfN y hi sr v - fl v)) := by
      by_cases c : rfN y hi sr v - fl v < s1
      · rw [if_pos (nI_lt c (by omega)), Nat.min_eq_right (by omega)]
      · rw [if_neg (nI_nlt (by omega) (by omega)), Nat.min_eq_left (by omega)]
    have eq1 : nI (pr v) = nI q := by rw [hpq]
    simp only [if_neg hn, if_pos eq1, hgk, pk_sub hrf.1, em, pk_us]
    rw [nI_add]
  | succ m ih =>
    intro hk
    have i := ih (by omega)
    have e : f_Model_shares_L100 W wi (nI x) (nI y) q (nI L) (nI C) g (v + 1 + (m + 1)) = f_Model_shares_L100s W wi (nI x) (nI y) q (v + 1 + m) (f_Model_shares_L100 W wi (nI x) (nI y) q (nI L) (nI C) g (v + 1 + m)).1 (f_Model_shares_L100 W wi (nI x) (nI y) q (nI L) (nI C) g (v + 1 + m)).2.1 (f_Model_shares_L100 W wi (nI x) (nI y) q (nI L) (nI C) g (v + 1 + m)).2.2 := rfl
    rw [e]
    generalize f_Model_shares_L100 W wi (nI x) (nI y) q (nI L) (nI C) g (v + 1 + m) = s at i
    unfold f_Model_shares_L100s
    dsimp only
    have hne : v ≠ v + 1 + m := by omega
    (repeat' split) <;> first | exact i | (rw [pk_un hne]; exact i)
theorem L90_g (hx : x < 2 ^ 31) (hy : y < 2 ^ 31) (hU : U ≤ 4) {L C : Nat} (hL : L ≤ 1000) {g : Nat → Int32} (hu : ∀ u, u < U → f_Model_roof (W wi) u 0 = nI (hi u) ∧ f_Model_roof (W wi) u 1 = nI (sr u) ∧ (W wi) ((9 + (8 * u)) + 3) = nI (pr u) ∧ pr u < 100 ∧ fl u ≤ hi u ∧ fl u ≤ sr u ∧ hi u ≤ 1000 ∧ sr u ≤ 1000) (hg : ∀ u, u < U → bt_ x u = true → g u = nI (fl u)) {v : Nat} (hv : v < U) (hb : bt_ x v = true) (hp : 1 ≤ pr v) :
    ∀ m, pr v + m ≤ 9 → (f_Model_shares_L90 W wi U (nI x) (nI y) 1 (nI L) (nI C) g (pr v + m)).2.2 v = nI (fl v + min ((preL pr U v).foldl (stM x fl (rfN y hi sr) pr) (L, C)).1 (rfN y hi sr v - fl v)) := by
  intro m
  induction m with
  | zero =>
    intro hm
    obtain ⟨t, ht⟩ : ∃ t, pr v = t + 1 := ⟨pr v - 1, by omega⟩
    rw [Nat.add_zero, ht]
    have e : f_Model_shares_L90 W wi U (nI x) (nI y) 1 (nI L) (nI C) g (t + 1) = f_Model_shares_L90s W wi U (nI x) (nI y) 1 t (f_Model_shares_L90 W wi U (nI x) (nI y) 1 (nI L) (nI C) g t).1 (f_Model_shares_L90 W wi U (nI x) (nI y) 1 (nI L) (nI C) g t).2.1 (f_Model_shares_L90 W wi U (nI x) (nI y) 1 (nI L) (nI C) g t).2.2 := rfl
    obtain ⟨g', i1, i2, i3⟩ := L90_eq (W := W) (wi := wi) (fl := fl) (hi := hi) (sr := sr) (pr := pr) hx hy hU (L := L) (C := C) hL hu hg t (by omega)
    rw [e, i1]
    dsimp only
    unfold preL
    rw [List.foldl_append, show pr v - 1 = t by omega]
    generalize (BL pr U t).foldl (stM x fl (rfN y hi sr) pr) (L, C) = s at i2
    obtain ⟨s1, s2⟩ := s
    dsimp only at i2 ⊢
    unfold f_Model_shares_L90s
    dsimp only
    rw [Nat.add_comm 1 t]
    have k := L100_g (W := W) (wi := wi) (fl := fl) (hi := hi) (sr := sr) (pr := pr) hx hy hU (q := t + 1) (L := s1) (C := s2) (by omega) (by omega) hu (fun u h1 h2 h3 => i3 u h1 h2 (by omega)) (v := v) hb ht (U - (v + 1)) (by omega)
    rw [show v + 1 + (U - (v + 1)) = U by omega] at k
    rw [ht]
    exact k
  | succ m ih =>
    intro hm
    have i := ih (by omega)
    have e : f_Model_shares_L90 W wi U (nI x) (nI y) 1 (nI L) (nI C) g (pr v + (m + 1)) = f_Model_shares_L90s W wi U (nI x) (nI y) 1 (pr v + m) (f_Model_shares_L90 W wi U (nI x) (nI y) 1 (nI L) (nI C) g (pr v + m)).1 (f_Model_shares_L90 W wi U (nI x) (nI y) 1 (nI L) (nI C) g (pr v + m)).2.1 (f_Model_shares_L90 W wi U (nI x) (nI y) 1 (nI L) (nI C) g (pr v + m)).2.2 := rfl
    obtain ⟨g', i1, i2, i3⟩ := L90_eq (W := W) (wi := wi) (fl := fl) (hi := hi) (sr := sr) (pr := pr) hx hy hU (L := L) (C := C) hL hu hg (pr v + m) (by omega)
    rw [e]
    rw [i1] at i ⊢
    dsimp only at i ⊢
    generalize (BL pr U (pr v + m)).foldl (stM x fl (rfN y hi sr) pr) (L, C) = s at i2
    obtain ⟨s1, s2⟩ := s
    dsimp only at i2 ⊢
    unfold f_Model_shares_L90s
    dsimp only
    rw [Nat.add_comm 1 (pr v + m)]
    obtain ⟨g2, k1, k2, k3⟩ := L100_eq (W := W) (wi := wi) (fl := fl) (hi := hi) (sr := sr) (pr := pr) hx hy hU (q := pr v + m + 1) (L := s1) (C := s2) (by omega) (by omega) hu (fun u h1 h2 h3 => i3 u h1 h2 (by omega)) U (Nat.le_refl _)
    rw [k1]
    dsimp only
    rw [k3 v (Or.inl (by omega))]
    exact i
end GV
