/-! Units by price: the class's order and the reference's loop over prices are one list -/
def bkt (p : Nat → Nat) (q n : Nat) : List Nat := (List.range n).filter (fun u => p u == q)
def BL (p : Nat → Nat) (n : Nat) : Nat → List Nat
  | 0 => []
  | q + 1 => BL p n q ++ bkt p (q + 1) n
def BS (p : Nat → Nat) (n a : Nat) : Nat → List Nat
  | 0 => []
  | k + 1 => BS p n a k ++ bkt p (a + (k + 1)) n
theorem bkt_succ {p : Nat → Nat} {q n : Nat} : bkt p q (n + 1) = bkt p q n ++ (if p n = q then [n] else []) := by
  unfold bkt
  rw [List.range_succ, List.filter_append]
  by_cases c : p n = q
  · rw [if_pos c]; simp [c]
  · rw [if_neg c]; simp [c]
theorem BL_split {p : Nat → Nat} {n a : Nat} : ∀ k, BL p n (a + k) = BL p n a ++ BS p n a k := by
  intro k
  induction k with
  | zero => show BL p n a = BL p n a ++ []; rw [List.append_nil]
  | succ k ih =>
    show BL p n (a + k) ++ bkt p (a + (k + 1)) n = BL p n a ++ (BS p n a k ++ bkt p (a + (k + 1)) n)
    rw [ih, List.append_assoc]
theorem BL_same {p : Nat → Nat} {n : Nat} : ∀ q, q < p n → BL p (n + 1) q = BL p n q := by
  intro q
  induction q with
  | zero => intro _; rfl
  | succ q ih =>
    intro h
    show BL p (n + 1) q ++ bkt p (q + 1) (n + 1) = BL p n q ++ bkt p (q + 1) n
    rw [ih (by omega), bkt_succ, if_neg (by omega), List.append_nil]
theorem BS_same {p : Nat → Nat} {n : Nat} : ∀ k, BS p (n + 1) (p n) k = BS p n (p n) k := by
  intro k
  induction k with
  | zero => rfl
  | succ k ih =>
    show BS p (n + 1) (p n) k ++ bkt p (p n + (k + 1)) (n + 1) = BS p n (p n) k ++ bkt p (p n + (k + 1)) n
    rw [ih, bkt_succ, if_neg (by omega), List.append_nil]
theorem BL_ins {p : Nat → Nat} {n q : Nat} (h1 : 1 ≤ p n) (h2 : p n ≤ q) : BL p (n + 1) q = BL p n (p n) ++ (n :: BS p n (p n) (q - p n)) ∧ BL p n q = BL p n (p n) ++ BS p n (p n) (q - p n) := by
  have e : q = p n + (q - p n) := by omega
  refine ⟨?_, ?_⟩
  · rw [e, BL_split, ← e, BS_same]
    obtain ⟨t, ht⟩ : ∃ t, p n = t + 1 := ⟨p n - 1, by omega⟩
    have e2 : BL p (n + 1) (p n) = BL p n (p n) ++ [n] := by
      rw [ht]
      show BL p (n + 1) t ++ bkt p (t + 1) (n + 1) = (BL p n t ++ bkt p (t + 1) n) ++ [n]
      rw [BL_same t (by omega), bkt_succ, if_pos ht, List.append_assoc]
    rw [e2, List.append_assoc]
    rfl
  · rw [e, BL_split, ← e]
theorem mem_bkt {p : Nat → Nat} {q n u : Nat} (h : u ∈ bkt p q n) : u < n ∧ p u = q := by
  unfold bkt at h
  rw [List.mem_filter] at h
  exact ⟨List.mem_range.mp h.1, eq_of_beq h.2⟩
theorem mem_BL {p : Nat → Nat} {n u : Nat} : ∀ q, u ∈ BL p n q → u < n ∧ p u ≤ q := by
  intro q
  induction q with
  | zero => intro h; cases h
  | succ q ih =>
    intro h
    rcases List.mem_append.mp h with z | z
    · exact ⟨(ih z).1, by have := (ih z).2; omega⟩
    · have := mem_bkt z
      exact ⟨this.1, by omega⟩
theorem mem_BS {p : Nat → Nat} {n a u : Nat} : ∀ k, u ∈ BS p n a k → u < n ∧ a < p u := by
  intro k
  induction k with
  | zero => intro h; cases h
  | succ k ih =>
    intro h
    rcases List.mem_append.mp h with z | z
    · exact ih z
    · have := mem_bkt z
      exact ⟨this.1, by omega⟩
def arr (o : Nat → Nat) (n : Nat) : List Nat := (List.range n).map o
theorem arr_get {o : Nat → Nat} {n i : Nat} : (arr o n)[i]? = if i < n then some (o i) else none := by
  unfold arr
  rw [List.getElem?_map]
  by_cases c : i < n
  · rw [if_pos c, List.getElem?_range c]; rfl
  · rw [if_neg c, List.getElem?_eq_none (by rw [List.length_range]; omega)]; rfl
theorem arr_len {o : Nat → Nat} {n : Nat} : (arr o n).length = n := by
  unfold arr
  rw [List.length_map, List.length_range]
theorem so12 {pri : Nat → Int32} {p : Nat → Nat} {u a : Nat} {o : Nat → Nat} (hp : ∀ v, v ≤ u → pri v = nI (p v) ∧ p v < 2 ^ 31) (ho : ∀ j, j < u → o j < u) (ha : a ≤ u) (h1 : ∀ j, a ≤ j → j < u → p u < p (o j)) (h2 : a = 0 ∨ p (o (a - 1)) ≤ p u) :
    ∀ (n y : Nat) (ov_ : Nat → Nat), y < n → a ≤ y → y ≤ u → y < 2 ^ 31 → (∀ j, j < y → ov_ j = o j) → (∀ j, y < j → j ≤ u → ov_ j = o (j - 1)) →
      (f_Day_sortUnits_L12 pri u n y ov_).1 = a ∧ (∀ j, j < a → (f_Day_sortUnits_L12 pri u n y ov_).2 j = o j) ∧ (∀ j, a < j → j ≤ u → (f_Day_sortUnits_L12 pri u n y ov_).2 j = o (j - 1)) := by
  intro n
  induction n with
  | zero => intro y ov_ h; exact absurd h (Nat.not_lt_zero _)
  | succ n ih =>
    intro y ov_ hn hay hyu hb q1 q2
    rw [f_Day_sortUnits_L12]
    by_cases c : (0 : Int32) < nI y
    · rw [if_pos c]
      have hy : 0 < y := nI_ltX (a := 0) c (by omega) hb
      have e1 := q1 (y - 1) (by omega)
      have hoy := ho (y - 1) (by omega)
      have hpu := hp u (Nat.le_refl _)
      have hpo := hp (o (y - 1)) (by omega)
      rw [e1, hpu.1, hpo.1]
      by_cases d : p u < p (o (y - 1))
      · rw [if_pos (nI_lt d hpo.2)]
        have hya : a ≤ y - 1 := by
          rcases Nat.lt_or_ge (y - 1) a with z | z
          · exfalso
            have : y = a := by omega
            subst this
            rcases h2 with w | w
            · omega
            · omega
          · exact z
        refine ih (y - 1) _ (by omega) hya (by omega) (by omega) (fun j hj => by rw [vu_ne (by omega)]; exact q1 j (by omega)) (fun j hj hju => ?_)
        by_cases z : j = y
        · subst z; rw [vu_self]
        · rw [vu_ne z]; exact q2 j (by omega) hju
      · rw [if_neg (fun z => d ((nI_ltI hpu.2 hpo.2).mp z))]
        have hya : y = a := by
          rcases Nat.lt_or_ge a y with z | z
          · exact absurd (h1 (y - 1) (by omega) (by omega)) d
          · omega
        subst hya
        exact ⟨rfl, q1, q2⟩
    · rw [if_neg c]
      have hy : y = 0 := by
        rcases Nat.eq_zero_or_pos y with z | z
        · exact z
        · exact absurd (nI_lt (a := 0) z hb) c
      have hya : y = a := by omega
      subst hya
      exact ⟨rfl, q1, q2⟩
theorem so_list {pri : Nat → Int32} {p : Nat → Nat} {ord : Nat → Nat} {U : Nat} (hU : U ≤ 4) (hp : ∀ v, v < U → pri v = nI (p v) ∧ 1 ≤ p v ∧ p v ≤ 9) : ∀ n, n ≤ U → arr (f_Day_sortUnits_L2 pri ord n) n = BL p n 9 := by
  intro n
  induction n with
  | zero =>
    intro _
    have : ∀ q, BL p 0 q = [] := by
      intro q
      induction q with
      | zero => rfl
      | succ q ih => show BL p 0 q ++ bkt p (q + 1) 0 = []; rw [ih]; rfl
    rw [this]; rfl
  | succ n ih =>
    intro hn
    have ih := ih (by omega)
    obtain ⟨i1, i2⟩ := BL_ins (p := p) (n := n) (q := 9) (hp n (by omega)).2.1 (hp n (by omega)).2.2
    generalize hA : BL p n (p n) = A at i1 i2
    generalize hB : BS p n (p n) (9 - p n) = B at i1 i2
    generalize hoo : f_Day_sortUnits_L2 pri ord n = o at ih
    rw [i2] at ih
    have hlen : A.length + B.length = n := by rw [← List.length_append, ← ih, arr_len]
    have gA : ∀ j, j < A.length → A[j]? = some (o j) := fun j hj => by
      have := arr_get (o := o) (n := n) (i := j)
      rw [ih, List.getElem?_append_left hj, if_pos (by omega)] at this
      exact this
    have gB : ∀ j, j < B.length → B[j]? = some (o (A.length + j)) := fun j hj => by
      have := arr_get (o := o) (n := n) (i := A.length + j)
      rw [ih, List.getElem?_append_right (by omega), if_pos (by omega), show A.length + j - A.length = j by omega] at this
      exact this
    have hall : ∀ j, j < n → o j < n := fun j hj => by
      rcases Nat.lt_or_ge j A.length with z | z
      · have := List.mem_of_getElem? (gA j z)
        rw [← hA] at this
        exact (mem_BL _ this).1
      · have := List.mem_of_getElem? (gB (j - A.length) (by omega))
        rw [← hB, show A.length + (j - A.length) = j by omega] at this
        exact (mem_BS _ this).1
    obtain ⟨s1, s2, s3⟩ := so12 (pri := pri) (p := p) (u := n) (a := A.length) (o := o) (fun v hv => ⟨(hp v (by omega)).1, by have := (hp v (by omega)).2.2; omega⟩) hall (by omega) (fun j h1 h2 => by
      have := List.mem_of_getElem? (gB (j - A.length) (by omega))
      rw [← hB, show A.length + (j - A.length) = j by omega] at this
      exact (mem_BS _ this).2) (by
      rcases Nat.eq_zero_or_pos A.length with z | z
      · exact Or.inl z
      · have := List.mem_of_getElem? (gA (A.length - 1) (by omega))
        rw [← hA] at this
        exact Or.inr (mem_BL _ (by rw [← hA]; exact this)).2) (n + 1) n o (by omega) (by omega) (Nat.le_refl _) (by omega) (fun _ _ => rfl) (fun j h1 h2 => absurd h2 (by omega))
    have e : f_Day_sortUnits_L2 pri ord (n + 1) = va_up (f_Day_sortUnits_L12 pri n (n + 1) n o).2 (f_Day_sortUnits_L12 pri n (n + 1) n o).1 n := by
      rw [← hoo]; rfl
    rw [e, s1, i1]
    refine List.ext_getElem? (fun i => ?_)
    rw [arr_get]
    rcases Nat.lt_trichotomy i A.length with z | z | z
    · rw [if_pos (by omega), vu_ne (by omega), s2 i z, List.getElem?_append_left z, gA i z]
    · subst z
      rw [if_pos (by omega), vu_self, List.getElem?_append_right (Nat.le_refl _), Nat.sub_self]
      rfl
    · rw [List.getElem?_append_right (by omega), show i - A.length = (i - A.length - 1) + 1 by omega, List.getElem?_cons_succ]
      by_cases w : i < n + 1
      · rw [if_pos w, vu_ne (by omega), s3 i z (by omega), gB _ (by omega), show A.length + (i - A.length - 1) = i - 1 by omega]
      · rw [if_neg w, List.getElem?_eq_none (by omega)]
