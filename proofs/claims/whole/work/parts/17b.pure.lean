section ANS
variable {P : Nat → Nat} {W : Nat → Nat → Int32} {H U : Nat} {res : Int32} {dem kin low hig pri sta ups dow onn flo sro sco : Nat → Int32} {ord : Nat → Nat}
theorem on_facts (hP : nOK P) (hm : mD (W 0) P) (hc : cD P H U res dem kin low hig pri sta ups dow onn) : ∀ u, u < U → onn u = nI (P ((9 + (8 * u)) + 7)) ∧ (W 0) ((9 + (8 * u)) + 7) = nI (P ((9 + (8 * u)) + 7)) ∧ P ((9 + (8 * u)) + 7) < 2 ^ H ∧ P ((9 + (8 * u)) + 7) < 64 := by
  obtain ⟨h0, h1, h2, h3, h4, h5⟩ := hP
  obtain ⟨rfl, rfl, c2, c3, c4⟩ := hc
  intro u hu
  have h64 : 2 ^ (P 1) ≤ 2 ^ 6 := Nat.pow_le_pow_right (by decide) h1
  have g := (h5 u hu).2.2.2.2.2.2.2.2
  exact ⟨(c4 u hu).2.2.2.2.2.2.2, hm _ (by omega), g, by omega⟩
theorem keeps_R (hP : nOK P) (hm : mD (W 0) P) (hc : cD P H U res dem kin low hig pri sta ups dow onn) : ∀ u, u < U → ∀ x, f_Day_keeps H kin ups dow u x = f_Model_keeps (W 0) u x H := by
  obtain ⟨h0, h1, h2, h3, h4, h5⟩ := hP
  obtain ⟨rfl, rfl, c2, c3, c4⟩ := hc
  intro u hu x
  obtain ⟨g1, g2, g3, g4, g5, g6, g7, g8, g9⟩ := h5 u hu
  obtain ⟨k1, k2, k3, k4, k5, k6, k7, k8⟩ := c4 u hu
  exact keeps_eq h1 g7.2 g8.2 k6 k7 (hm _ (by omega)) (hm _ (by omega)) (by rw [k1, hm (9 + (8 * u)) (by omega)])
theorem dem_facts (hP : nOK P) (hm : mD (W 0) P) (hc : cD P H U res dem kin low hig pri sta ups dow onn) : ∀ h, h < H → (W 0) (3 + h) = nI (P (3 + h)) ∧ dem h = nI (P (3 + h)) ∧ P (3 + h) ≤ 100 := by
  obtain ⟨h0, h1, h2, h3, h4, h5⟩ := hP
  obtain ⟨rfl, rfl, c2, c3, c4⟩ := hc
  intro h hh
  exact ⟨hm _ (by omega), c3 h hh, by have := h4 h hh; omega⟩
theorem ans_kind {u : Int32} (hP : nOK P) (hm : mD (W 0) P) (hc : cD P H U res dem kin low hig pri sta ups dow onn) : f_UH_kind U kin u = f_Model_kind W u U := by
  obtain ⟨h0, h1, h2, h3, h4, h5⟩ := hP
  obtain ⟨rfl, rfl, c2, c3, c4⟩ := hc
  unfold f_UH_kind f_Model_kind f_Model_kindIn
  rcases unitC (u := u) h0 with ⟨k, hk, rfl, g1, g2⟩ | ⟨g1, g2⟩
  · rw [g1, g2, iteT (show (0 : Int32) = 0 from rfl), iteF (show ¬ (1 : Int32) = 0 by decide), nI_clamp (by omega), (c4 k hk).1, hm (9 + (8 * k)) (by omega)]
  · rw [g1, g2, iteF (show ¬ (1 : Int32) = 0 by decide), iteT (show (0 : Int32) = 0 from rfl)]
theorem ans_trace {left trc : Nat → Int32} {nl : Nat} {i : Int32} (h1 : nl ≤ 16) (h2 : ∀ i, i < nl → left i = trc i) : f_UH_trace left nl i = f_Model_trace trc nl i := by
  unfold f_UH_trace f_Model_trace
  rcases inC (v := i) (N := nl) (by omega) with ⟨k, q1, rfl, q3⟩ | ⟨q1, q2⟩
  · rw [q3, iteF (show ¬ (1 : Int32) = 0 by decide), if_neg (nI_nneg (by omega)), if_pos (nI_lt q1 (by omega)), nI_clamp (by omega), h2 k q1]
  · rw [q1, iteT (show (0 : Int32) = 0 from rfl)]
    rcases q2 with z | z
    · rw [if_pos z]
    · rw [if_neg z, ite_self]
theorem there_R {it : Nat → Nat → Int32} {lan siz lane : Nat → Int32} {many : Nat → Nat} {items : Nat → Int32} (h : rR it lan siz lane many items) : f_Rows_countThere siz = f_Model_count_L42 lane 0 8 := by
  have k : ∀ n, n ≤ 8 → f_Rows_countThere_L4 siz 0 n = f_Model_count_L42 lane 0 n := by
    intro n
    induction n with
    | zero => intro _; rfl
    | succ n ih =>
      intro hn
      show f_Rows_countThere_L4s siz n (f_Rows_countThere_L4 siz 0 n) = f_Model_count_L42s lane n (f_Model_count_L42 lane 0 n)
      rw [ih (by omega)]
      unfold f_Rows_countThere_L4s f_Model_count_L42s
      rcases missC h (show n < 8 by omega) with ⟨m1, m2⟩ | ⟨m1, m2, -⟩
      · rw [m1, m2, iteF (show ¬ (1 : Int32) = 0 by decide), iteF (show ¬ (1 : Int32) = 0 by decide), Int32.add_zero]
      · rw [m1, m2, iteT (show (0 : Int32) = 0 from rfl), iteT (show (0 : Int32) = 0 from rfl)]
  exact k 8 (Nat.le_refl _)
theorem sumD_R (hP : nOK P) (hm : mD (W 0) P) (hc : cD P H U res dem kin low hig pri sta ups dow onn) : f_Day_sumDemands H dem = f_Model_count_L88 W 0 H := by
  have hd := dem_facts hP hm hc
  have k : ∀ n, n ≤ H → f_Day_sumDemands_L4 dem 0 n = f_Model_count_L88 W 0 n := by
    intro n
    induction n with
    | zero => intro _; rfl
    | succ n ih =>
      intro hn
      show f_Day_sumDemands_L4s dem n (f_Day_sumDemands_L4 dem 0 n) = f_Model_count_L88s W n (f_Model_count_L88 W 0 n)
      rw [ih (by omega)]
      unfold f_Day_sumDemands_L4s f_Model_count_L88s
      obtain ⟨d1, d2, d3⟩ := hd n (by omega)
      rw [d1, d2]
  exact k H (Nat.le_refl _)
theorem ans_count {it : Nat → Nat → Int32} {lan siz lane : Nat → Int32} {many : Nat → Nat} {items : Nat → Int32} {asz ln : Nat} {wh : Int32} (hP : nOK P) (hm : mD (W 0) P) (hc : cD P H U res dem kin low hig pri sta ups dow onn) (h : rR it lan siz lane many items) : f_UH_count siz H U dem asz ln wh = f_Model_count lane ln W asz wh U H := by
  unfold f_UH_count f_Model_count
  rw [there_R h, sumD_R hP hm hc]
theorem ans_unit {u wh : Int32} (hP : nOK P) (hm : mD (W 0) P) (hc : cD P H U res dem kin low hig pri sta ups dow onn) : f_UH_unit H U kin low hig pri sta ups dow onn u wh = f_Model_unit W u wh U H := by
  have hon := on_facts hP hm hc
  have hke := keeps_R hP hm hc
  obtain ⟨h0, h1, h2, h3, h4, h5⟩ := hP
  obtain ⟨rfl, rfl, c2, c3, c4⟩ := hc
  unfold f_UH_unit f_Model_unit
  rcases unitC (u := u) h0 with ⟨k, hk, rfl, g1, g2⟩ | ⟨g1, g2⟩
  · rw [g1, g2, iteT (show (0 : Int32) = 0 from rfl), iteF (show ¬ (1 : Int32) = 0 by decide), nI_clamp (by omega)]
    obtain ⟨k1, k2, k3, k4, k5, k6, k7, k8⟩ := c4 k hk
    obtain ⟨o1, o2, o3, o4⟩ := hon k hk
    rcases inC (v := wh) (N := 9) (by omega) with ⟨j, q1, rfl, q3⟩ | ⟨q1, q2⟩
    · rw [show f_Model_in (nI j) 0 8 = 1 from q3, iteF (show ¬ (1 : Int32) = 0 by decide)]
      have hj : j = 0 ∨ j = 1 ∨ j = 2 ∨ j = 3 ∨ j = 4 ∨ j = 5 ∨ j = 6 ∨ j = 7 ∨ j = 8 := by omega
      rcases hj with e | e | e | e | e | e | e | e | e <;> subst e
      · rw [iteT (show nI 0 = (0 : Int32) from rfl), iteT (show nI 0 < (7 : Int32) by decide), nI_clamp (by omega), k2]
        exact (hm ((9 + (8 * k)) + 1) (by omega)).symm
      · rw [iteF (show ¬ nI 1 = (0 : Int32) by decide), iteT (show nI 1 = (1 : Int32) from rfl), iteT (show nI 1 < (7 : Int32) by decide), nI_clamp (by omega), k3]
        exact (hm ((9 + (8 * k)) + 2) (by omega)).symm
      · rw [iteF (show ¬ nI 2 = (0 : Int32) by decide), iteF (show ¬ nI 2 = (1 : Int32) by decide), iteT (show nI 2 = (2 : Int32) from rfl), iteT (show nI 2 < (7 : Int32) by decide), nI_clamp (by omega), k4]
        exact (hm ((9 + (8 * k)) + 3) (by omega)).symm
      · rw [iteF (show ¬ nI 3 = (0 : Int32) by decide), iteF (show ¬ nI 3 = (1 : Int32) by decide), iteF (show ¬ nI 3 = (2 : Int32) by decide), iteT (show nI 3 = (3 : Int32) from rfl), iteT (show nI 3 < (7 : Int32) by decide), nI_clamp (by omega), k5]
        exact (hm ((9 + (8 * k)) + 4) (by omega)).symm
      · rw [iteF (show ¬ nI 4 = (0 : Int32) by decide), iteF (show ¬ nI 4 = (1 : Int32) by decide), iteF (show ¬ nI 4 = (2 : Int32) by decide), iteF (show ¬ nI 4 = (3 : Int32) by decide), iteT (show nI 4 = (4 : Int32) from rfl), iteT (show nI 4 < (7 : Int32) by decide), nI_clamp (by omega), k6]
        exact (hm ((9 + (8 * k)) + 5) (by omega)).symm
      · rw [iteF (show ¬ nI 5 = (0 : Int32) by decide), iteF (show ¬ nI 5 = (1 : Int32) by decide), iteF (show ¬ nI 5 = (2 : Int32) by decide), iteF (show ¬ nI 5 = (3 : Int32) by decide), iteF (show ¬ nI 5 = (4 : Int32) by decide), iteT (show nI 5 = (5 : Int32) from rfl), iteT (show nI 5 < (7 : Int32) by decide), nI_clamp (by omega), k7]
        exact (hm ((9 + (8 * k)) + 6) (by omega)).symm
      · rw [iteF (show ¬ nI 6 = (0 : Int32) by decide), iteF (show ¬ nI 6 = (1 : Int32) by decide), iteF (show ¬ nI 6 = (2 : Int32) by decide), iteF (show ¬ nI 6 = (3 : Int32) by decide), iteF (show ¬ nI 6 = (4 : Int32) by decide), iteF (show ¬ nI 6 = (5 : Int32) by decide), iteT (show nI 6 = (6 : Int32) from rfl), iteT (show nI 6 < (7 : Int32) by decide), nI_clamp (by omega), k8]
        exact (hm ((9 + (8 * k)) + 7) (by omega)).symm
      · rw [iteF (show ¬ nI 7 = (0 : Int32) by decide), iteF (show ¬ nI 7 = (1 : Int32) by decide), iteF (show ¬ nI 7 = (2 : Int32) by decide), iteF (show ¬ nI 7 = (3 : Int32) by decide), iteF (show ¬ nI 7 = (4 : Int32) by decide), iteF (show ¬ nI 7 = (5 : Int32) by decide), iteF (show ¬ nI 7 = (6 : Int32) by decide), iteT (show nI 7 = (7 : Int32) from rfl), iteF (show ¬ nI 7 < (7 : Int32) by decide), iteT (show nI 7 = (7 : Int32) from rfl), o1, o2, startsOf_eq h1 o3]
      · rw [iteF (show ¬ nI 8 = (0 : Int32) by decide), iteF (show ¬ nI 8 = (1 : Int32) by decide), iteF (show ¬ nI 8 = (2 : Int32) by decide), iteF (show ¬ nI 8 = (3 : Int32) by decide), iteF (show ¬ nI 8 = (4 : Int32) by decide), iteF (show ¬ nI 8 = (5 : Int32) by decide), iteF (show ¬ nI 8 = (6 : Int32) by decide), iteF (show ¬ nI 8 = (7 : Int32) by decide), iteT (show nI 8 = (8 : Int32) from rfl), iteF (show ¬ nI 8 < (7 : Int32) by decide), iteF (show ¬ nI 8 = (7 : Int32) by decide), o1, o2, hke k hk]
    · rw [show f_Model_in wh 0 8 = 0 from q1, iteT (show (0 : Int32) = 0 from rfl)]
      have n : ∀ j, j < 9 → ¬ wh = nI j := fun j hj e => by
        rcases q2 with z | z
        · rw [e] at z; exact nI_nneg (by omega) z
        · rw [e] at z; exact z (nI_lt hj (by omega))
      rw [iteF (show ¬ wh = (0 : Int32) from n 0 (by omega)), iteF (show ¬ wh = (1 : Int32) from n 1 (by omega)), iteF (show ¬ wh = (2 : Int32) from n 2 (by omega)), iteF (show ¬ wh = (3 : Int32) from n 3 (by omega)), iteF (show ¬ wh = (4 : Int32) from n 4 (by omega)), iteF (show ¬ wh = (5 : Int32) from n 5 (by omega)), iteF (show ¬ wh = (6 : Int32) from n 6 (by omega)), iteF (show ¬ wh = (7 : Int32) from n 7 (by omega)), iteF (show ¬ wh = (8 : Int32) from n 8 (by omega))]
  · rw [g1, g2, iteF (show ¬ (1 : Int32) = 0 by decide), iteT (show (0 : Int32) = 0 from rfl)]
theorem ans_hour {hr wh : Int32} (hP : nOK P) (hm : mD (W 0) P) (hc : cD P H U res dem kin low hig pri sta ups dow onn) (hs : cS P ord flo sro sco) : f_UH_hour H U res dem hig onn flo sro hr wh = f_Model_hour W hr wh U H := by
  have hon := on_facts hP hm hc
  have hd := dem_facts hP hm hc
  have hu := uOK_of hP hm hc hs
  obtain ⟨h0, h1, h2, h3, h4, h5⟩ := hP
  obtain ⟨rfl, rfl, c2, c3, c4⟩ := hc
  unfold f_UH_hour f_Model_hour
  rcases hourC (u := hr) h1 with ⟨k, hk, rfl, g1, g2⟩ | ⟨g1, g2⟩
  · rw [g1, g2, iteT (show (0 : Int32) = 0 from rfl), iteF (show ¬ (1 : Int32) = 0 by decide), nI_clamp (by omega)]
    obtain ⟨d1, d2, d3⟩ := hd k hk
    have e1 := onAt_eq (U := P 0) (f := W 0) (onn := onn) (s := fun u => P ((9 + (8 * u)) + 7)) h0 (show k < 6 by omega) (fun u hu => ⟨(hon u hu).1, (hon u hu).2.1, (hon u hu).2.2.2⟩)
    have e2 := stAt_eq (U := P 0) (f := W 0) (onn := onn) (s := fun u => P ((9 + (8 * u)) + 7)) h0 (show k < 6 by omega) (fun u hu => ⟨(hon u hu).1, (hon u hu).2.1, (hon u hu).2.2.2⟩)
    rw [e1, e2, isMet_eq (h := k) (d1.trans d2.symm) (show (W 0) 2 = res by rw [hm 2 (by omega), c2]) hu, floors_eq (y := f_Model_startingAt (W 0) (nI k) (P 0)) hu, roofs_eq hu]
    by_cases w0 : wh = 0
    · rw [if_pos w0, if_pos w0, d1, d2]
    by_cases w1 : wh = 1
    · rw [if_neg w0, if_pos w1, if_neg w0, if_pos w1]
    by_cases w2 : wh = 2
    · rw [if_neg w0, if_neg w1, if_pos w2, if_neg w0, if_neg w1, if_pos w2, w2]
      rfl
    by_cases w3 : wh = 3
    · rw [if_neg w0, if_neg w1, if_neg w2, if_pos w3, if_neg w0, if_neg w1, if_neg w2, if_pos w3, w3]
      rfl
    · rw [if_neg w0, if_neg w1, if_neg w2, if_neg w3, if_neg w0, if_neg w1, if_neg w2, if_neg w3]
  · rw [g1, g2, iteF (show ¬ (1 : Int32) = 0 by decide), iteT (show (0 : Int32) = 0 from rfl)]
theorem ans_gives {u hr : Int32} {gvn : Nat → Int32} (hP : nOK P) (hm : mD (W 0) P) (hc : cD P H U res dem kin low hig pri sta ups dow onn) (hs : cS P ord flo sro sco) : f_UH_gives H U res dem hig onn ord flo sro u hr = (f_Model_gives W gvn u hr U H).1 := by
  have hon := on_facts hP hm hc
  have hd := dem_facts hP hm hc
  have hu := uOK_of hP hm hc hs
  obtain ⟨h0, h1, h2, h3, h4, h5⟩ := hP
  obtain ⟨rfl, rfl, c2, c3, c4⟩ := hc
  unfold f_UH_gives f_Model_gives
  rcases unitC (u := u) h0 with ⟨j, hj, rfl, t1, t2⟩ | ⟨t1, t2⟩
  · rw [t1, t2, iteT (show (0 : Int32) = 0 from rfl), iteF (show ¬ (1 : Int32) = 0 by decide)]
    rcases hourC (u := hr) h1 with ⟨k, hk, rfl, g1, g2⟩ | ⟨g1, g2⟩
    · rw [g1, g2, iteT (show (0 : Int32) = 0 from rfl), iteF (show ¬ (1 : Int32) = 0 by decide), nI_clamp (show k < 2 ^ 31 by omega), nI_clamp (show j < 2 ^ 31 by omega)]
      obtain ⟨d1, d2, d3⟩ := hd k hk
      have e1 := onAt_eq (U := P 0) (f := W 0) (onn := onn) (s := fun u => P ((9 + (8 * u)) + 7)) h0 (show k < 6 by omega) (fun u hu => ⟨(hon u hu).1, (hon u hu).2.1, (hon u hu).2.2.2⟩)
      have e2 := stAt_eq (U := P 0) (f := W 0) (onn := onn) (s := fun u => P ((9 + (8 * u)) + 7)) h0 (show k < 6 by omega) (fun u hu => ⟨(hon u hu).1, (hon u hu).2.1, (hon u hu).2.2.2⟩)
      obtain ⟨x, x1, x2, -⟩ := unOn_nat (U := P 0) (onn := onn) (s := fun u => P ((9 + (8 * u)) + 7)) h0 (show k < 6 by omega) (fun u hu => ⟨(hon u hu).1, (hon u hu).2.2.2⟩)
      obtain ⟨y, y1, y2, -⟩ := unSt_nat (U := P 0) (onn := onn) (s := fun u => P ((9 + (8 * u)) + 7)) h0 (show k < 6 by omega) (fun u hu => ⟨(hon u hu).1, (hon u hu).2.2.2⟩)
      have h16 := pow2_4 h0
      rw [← e1, ← e2, isMet_eq (h := k) (d1.trans d2.symm) (show (W 0) 2 = res by rw [hm 2 (by omega), c2]) hu, x2, y2]
      by_cases c : f_Model_isMet (W 0) k (nI x) (nI y) (P 0) = 0
      · rw [if_pos c, if_pos c]
      · rw [if_neg c, if_neg c, d2]
        exact given_eq (wi := 0) (by omega) (by omega) h0 d1 d3 (hm 2 (by omega)) (by omega) c2 hs.1 hs.2.1 hu hj c
    · rw [g1, g2, iteF (show ¬ (1 : Int32) = 0 by decide), iteT (show (0 : Int32) = 0 from rfl)]
  · rw [t1, t2, iteF (show ¬ (1 : Int32) = 0 by decide), iteT (show (0 : Int32) = 0 from rfl)]
theorem dayC (hP : nOK P) (hm : mD (W 0) P) (hc : cD P H U res dem kin low hig pri sta ups dow onn) : (f_UH_noDay H = 1 ∧ f_Model_isDay W = 0 ∧ P 1 = 0) ∨ (f_UH_noDay H = 0 ∧ f_Model_isDay W = 1 ∧ 0 < P 1) := by
  obtain ⟨h0, h1, h2, h3, h4, h5⟩ := hP
  obtain ⟨rfl, rfl, c2, c3, c4⟩ := hc
  unfold f_UH_noDay f_Model_isDay
  rw [hm 0 (by omega)]
  by_cases c : P 1 = 0
  · rw [c, h2.mpr c]
    exact Or.inl ⟨rfl, rfl, rfl⟩
  · have c0 : ¬ P 0 = 0 := fun z => c (h2.mp z)
    refine Or.inr ⟨if_neg (fun z => c ((nI_eq (b := 0) (by omega) (by omega)).mp z)), if_pos (nI_lt (a := 0) (by omega) (by omega)), by omega⟩
theorem ans_plan {wh : Int32} {gvn : Nat → Int32} (hP : nOK P) (hm : mD (W 0) P) (hc : cD P H U res dem kin low hig pri sta ups dow onn) (hs : cS P ord flo sro sco) : f_UH_plan H U res dem kin hig pri ups dow onn ord flo sro sco wh = (f_Model_plan W gvn wh U H).1 := by
  have hon := on_facts hP hm hc
  have hd := dem_facts hP hm hc
  have hu := uOK_of hP hm hc hs
  have hke := keeps_R hP hm hc
  have hdc := dayC hP hm hc
  obtain ⟨h0, h1, h2, h3, h4, h5⟩ := hP
  obtain ⟨rfl, rfl, c2, c3, c4⟩ := hc
  unfold f_UH_plan f_Model_plan
  rcases hdc with ⟨g1, g2, -⟩ | ⟨g1, g2, -⟩
  · rw [g1, g2, iteF (show ¬ (1 : Int32) = 0 by decide), iteT (show (0 : Int32) = 0 from rfl)]
  · rw [g1, g2, iteT (show (0 : Int32) = 0 from rfl), iteF (show ¬ (1 : Int32) = 0 by decide)]
    have hk : ∀ u, u < P 0 → f_Day_keeps (P 1) kin ups dow u (onn u) = f_Model_keeps (W 0) u ((W 0) ((9 + (8 * u)) + 7)) (P 1) := fun u hu => by rw [hke u hu, (hon u hu).1, (hon u hu).2.1]
    by_cases w0 : wh = 0
    · rw [if_pos w0, if_pos w0]
      exact planCost_eq h0 h1 hk (hours_or (dd := fun h => P (3 + h)) (s := fun u => P ((9 + (8 * u)) + 7)) h0 h1 hd (hm 2 (by omega)) (by omega) c2 hs.1 hu (fun u hu => ⟨(hon u hu).1, (hon u hu).2.1, (hon u hu).2.2.2⟩))
    by_cases w1 : wh = 1
    · rw [if_neg w0, if_pos w1, if_neg w0, if_pos w1]
      refine nm_eq (fun h hh => ?_)
      obtain ⟨d1, d2, d3⟩ := hd h hh
      have e1 := onAt_eq (U := P 0) (f := W 0) (onn := onn) (s := fun u => P ((9 + (8 * u)) + 7)) h0 (show h < 6 by omega) (fun u hu => ⟨(hon u hu).1, (hon u hu).2.1, (hon u hu).2.2.2⟩)
      have e2 := stAt_eq (U := P 0) (f := W 0) (onn := onn) (s := fun u => P ((9 + (8 * u)) + 7)) h0 (show h < 6 by omega) (fun u hu => ⟨(hon u hu).1, (hon u hu).2.1, (hon u hu).2.2.2⟩)
      rw [e1, e2]
      exact isMet_eq (d1.trans d2.symm) (show (W 0) 2 = res by rw [hm 2 (by omega), c2]) hu
    by_cases w2 : wh = 2
    · rw [if_neg w0, if_neg w1, if_pos w2, if_neg w0, if_neg w1, if_pos w2]
      exact nk_eq hk
    by_cases w3 : wh = 3
    · rw [if_neg w0, if_neg w1, if_neg w2, if_pos w3, if_neg w0, if_neg w1, if_neg w2, if_pos w3]
      exact cs_eq (s := fun u => P ((9 + (8 * u)) + 7)) h1 (fun u hu => ⟨(hon u hu).1, (hon u hu).2.1, (hon u hu).2.2.1⟩)
    by_cases w4 : wh = 4
    · rw [if_neg w0, if_neg w1, if_neg w2, if_neg w3, if_pos w4, if_neg w0, if_neg w1, if_neg w2, if_neg w3, if_pos w4, c2]
      exact (hm 2 (by omega)).symm
    · rw [if_neg w0, if_neg w1, if_neg w2, if_neg w3, if_neg w4, if_neg w0, if_neg w1, if_neg w2, if_neg w3, if_neg w4]
theorem feed_R {tape : Nat → Int32} {ln : Nat} {le : Int32} (hl : ln ≤ 120) (hb : ∀ i, i < ln → ¬ tape i < 0) : f_UH_feed tape ln le = f_Model_feed tape ln le ∧ (f_UH_feed tape ln le).2.2 ≤ 120 ∧ ∀ i, i < (f_UH_feed tape ln le).2.2 → ¬ (f_UH_feed tape ln le).2.1 i < 0 := by
  unfold f_UH_feed f_Model_feed f_Model_in
  by_cases c1 : le < 0
  · rw [if_pos c1, if_pos c1, iteT (show (0 : Int32) = 0 from rfl)]
    exact ⟨rfl, hl, hb⟩
  by_cases c2 : 255 < le
  · rw [if_neg c1, if_pos c2, if_neg c1, if_pos c2, iteT (show (0 : Int32) = 0 from rfl)]
    exact ⟨rfl, hl, hb⟩
  rw [if_neg c1, if_neg c2, if_neg c1, if_neg c2, iteF (show ¬ (1 : Int32) = 0 by decide)]
  unfold f_Tape_isFull2
  by_cases c3 : ln < 120
  · rw [iteT (show nI ln < (120 : Int32) from nI_lt (b := 120) c3 (by omega)), iteT (show (0 : Int32) = 0 from rfl), iteF (show ¬ nI ln = (120 : Int32) from fun z => by have := (nI_eq (b := 120) (by omega) (by omega)).mp z; omega), lt_eq]
    unfold f_Tape_add
    refine ⟨rfl, c3, fun i hi => ?_⟩
    dsimp only at hi ⊢
    by_cases d : i = ln
    · rw [d, pk_us]; exact c1
    · rw [pk_un d]; exact hb i (by omega)
  · rw [iteF (show ¬ nI ln < (120 : Int32) from nI_nlt (b := 120) (by omega) (by omega)), iteF (show ¬ (1 : Int32) = 0 by decide), iteT (show nI ln = (120 : Int32) by rw [show ln = 120 by omega]; rfl)]
    exact ⟨rfl, hl, hb⟩
end ANS
