section GV2
variable {W : Nat → Nat → Int32} {wi U x y : Nat} {fl hi sr pr sc : Nat → Nat}
theorem L100_z (hx : x < 2 ^ 31) (hU : U ≤ 4) {q : Nat} {L C Y : Int32} {g : Nat → Int32} {v : Nat} (hb : bt_ x v = false) : ∀ k, k ≤ U → (f_Model_shares_L100 W wi (nI x) Y q L C g k).2.2 v = g v := by
  intro k
  induction k with
  | zero => intro _; rfl
  | succ k ih =>
    intro hk
    have i := ih (by omega)
    have e : f_Model_shares_L100 W wi (nI x) Y q L C g (k + 1) = f_Model_shares_L100s W wi (nI x) Y q k (f_Model_shares_L100 W wi (nI x) Y q L C g k).1 (f_Model_shares_L100 W wi (nI x) Y q L C g k).2.1 (f_Model_shares_L100 W wi (nI x) Y q L C g k).2.2 := rfl
    rw [e]
    generalize f_Model_shares_L100 W wi (nI x) Y q L C g k = s at i
    unfold f_Model_shares_L100s
    dsimp only
    by_cases c : f_Model_has (nI x) (nI k) = 0
    · rw [if_pos c]; exact i
    · have hne : v ≠ k := fun z => c (by rw [← z]; exact (has0 hx (by omega)).mpr hb)
      rw [if_neg c]
      split
      · rw [pk_un hne]; exact i
      · exact i
theorem L90_z (hx : x < 2 ^ 31) (hU : U ≤ 4) {q : Nat} {L C Y : Int32} {g : Nat → Int32} {v : Nat} (hb : bt_ x v = false) : ∀ j, (f_Model_shares_L90 W wi U (nI x) Y q L C g j).2.2 v = g v := by
  intro j
  induction j with
  | zero => rfl
  | succ j ih =>
    have e : f_Model_shares_L90 W wi U (nI x) Y q L C g (j + 1) = f_Model_shares_L90s W wi U (nI x) Y q j (f_Model_shares_L90 W wi U (nI x) Y q L C g j).1 (f_Model_shares_L90 W wi U (nI x) Y q L C g j).2.1 (f_Model_shares_L90 W wi U (nI x) Y q L C g j).2.2 := rfl
    rw [e]
    unfold f_Model_shares_L90s
    dsimp only
    rw [L100_z hx hU hb U (Nat.le_refl _)]
    exact ih
theorem shares_g (hx : x < 2 ^ 31) (hy : y < 2 ^ 31) (hU : U ≤ 4) {h d : Nat} {gvn : Nat → Int32} (hd : (W wi) (3 + h) = nI d) (hd2 : d ≤ 1000) (hSF : sumU (SFN x fl) U ≤ d)
    (hu : ∀ u, u < U → f_Model_floor (W wi) u = nI (fl u) ∧ f_Model_startCost (W wi) u = nI (sc u) ∧ f_Model_roof (W wi) u 0 = nI (hi u) ∧ f_Model_roof (W wi) u 1 = nI (sr u) ∧ (W wi) ((9 + (8 * u)) + 3) = nI (pr u) ∧ pr u < 100 ∧ fl u ≤ hi u ∧ fl u ≤ sr u ∧ hi u ≤ 1000 ∧ sr u ≤ 1000) {v : Nat} (hv : v < U) (h1 : 1 ≤ pr v) (h9 : pr v ≤ 9) :
    (f_Model_shares W gvn h (nI x) (nI y) wi U).2 v = if bt_ x v then nI (fl v + min ((preL pr U v).foldl (stM x fl (rfN y hi sr) pr) (d - sumU (SFN x fl) U, sumU (SFN y sc) U)).1 (rfN y hi sr v - fl v)) else 0 := by
  obtain ⟨s1, -⟩ := sumOf_eq (f := W wi) (fl := fl) (hi := hi) (sr := sr) hx hy hU (fun u h => ⟨(hu u h).1, (hu u h).2.2.1, (hu u h).2.2.2.1⟩)
  obtain ⟨l1, l2⟩ := L22_eq (W := W) (wi := wi) (x := x) (y := y) (fl := fl) (sc := sc) hx hy hU (gvn := gvn) (fun u h => ⟨(hu u h).1, (hu u h).2.1⟩) U (Nat.le_refl _)
  unfold f_Model_shares
  generalize f_Model_shares_L22 W wi (nI x) (nI y) (0 : Int32) gvn U = q1 at l1 l2
  dsimp only
  rw [l1, hd, s1, pk_sub hSF]
  show (f_Model_shares_L90 W wi U (nI x) (nI y) 1 (nI (d - sumU (SFN x fl) U)) (nI (sumU (SFN y sc) U)) q1.2 9).2.2 v = _
  cases hb : bt_ x v
  · rw [L90_z hx hU hb, l2 v hv, SFN_f hb]
    rfl
  · have k := L90_g (W := W) (wi := wi) (x := x) (y := y) (fl := fl) (hi := hi) (sr := sr) (pr := pr) hx hy hU (L := d - sumU (SFN x fl) U) (C := sumU (SFN y sc) U) (by omega) (g := q1.2) (fun u h => (hu u h).2.2) (fun u h1 h2 => by rw [l2 u h1, SFN_t h2]) (v := v) hv hb h1 (9 - pr v) (by omega)
    rw [show pr v + (9 - pr v) = 9 by omega] at k
    rw [k]
    rfl
variable {hig flo sro : Nat → Int32} {ord : Nat → Nat}
theorem gb_z (hx : x < 2 ^ 31) (hU : U ≤ 4) (hO : ∀ j, j < 4 → ord j < 4) {Y : Int32} {v : Nat} (hv : v < U) (hb : bt_ x v = false) : ∀ n k L, n + k < 100 → ∃ p, f_Day_givenBy_L12 U hig ord flo sro v (nI x) Y n L k = .inl p := by
  intro n
  induction n with
  | zero => intro k L _; exact ⟨_, rfl⟩
  | succ n ih =>
    intro k L hk
    rw [f_Day_givenBy_L12]
    by_cases c : nI k < nI U
    · rw [if_pos c]
      have hkU : k < U := nI_ltX c (by omega) (by omega)
      have hok := hO k (by omega)
      by_cases g : ((nI x >>> ((nI (ord k)) &&& 31)) &&& (1 : Int32)) = (1 : Int32)
      · rw [if_pos g]
        have hne : ¬ nI (ord k) = nI v := fun z => by
          have := (nI_eq (by omega) (by omega)).mp z
          rw [this] at g
          have h2 := (bitT hx (show v < 31 by omega)).mp g
          unfold bt_ at hb
          exact absurd h2 (of_decide_eq_false hb)
        rw [if_neg hne]
        exact ih _ _ (by omega)
      · rw [if_neg g]
        exact ih _ _ (by omega)
    · rw [if_neg c]; exact ⟨_, rfl⟩
theorem gb_s (hx : x < 2 ^ 31) (hy : y < 2 ^ 31) (hU : U ≤ 4) (hu : ∀ u, u < U → flo u = nI (fl u) ∧ hig u = nI (hi u) ∧ sro u = nI (sr u) ∧ fl u ≤ hi u ∧ fl u ≤ sr u ∧ hi u ≤ 1000 ∧ sr u ≤ 1000) {v : Nat} (hv : v < U) (hb : bt_ x v = true) (h1 : 1 ≤ pr v) (h9 : pr v ≤ 9) {L C : Nat} (hL : L ≤ 1000) (hord : arr ord U = BL pr U 9) :
    ∀ m k n, k + m = (preL pr U v).length → U + 1 ≤ n + k → k ≤ U → ((arr ord k).foldl (stM x fl (rfN y hi sr) pr) (L, C)).1 ≤ L → f_Day_givenBy_L12 U hig ord flo sro v (nI x) (nI y) n (nI ((arr ord k).foldl (stM x fl (rfN y hi sr) pr) (L, C)).1) k = .inr (nI (fl v + min ((preL pr U v).foldl (stM x fl (rfN y hi sr) pr) (L, C)).1 (rfN y hi sr v - fl v))) := by
  obtain ⟨B, eB⟩ := BL_pre (p := pr) hv h1 h9
  rw [eB] at hord
  have hlen : (preL pr U v).length + (B.length + 1) = U := by
    have := congrArg List.length hord
    rw [arr_len, List.length_append, List.length_cons] at this
    omega
  have gA : ∀ j, j < (preL pr U v).length → (preL pr U v)[j]? = some (ord j) := fun j hj => by
    have := arr_get (o := ord) (n := U) (i := j)
    rw [hord, List.getElem?_append_left hj, if_pos (by omega)] at this
    exact this
  have gV : ord (preL pr U v).length = v := by
    have := arr_get (o := ord) (n := U) (i := (preL pr U v).length)
    rw [hord, List.getElem?_append_right (Nat.le_refl _), Nat.sub_self, if_pos (by omega)] at this
    exact (Option.some.inj this).symm
  have eA : arr ord (preL pr U v).length = preL pr U v := by
    refine List.ext_getElem? (fun i => ?_)
    rw [arr_get]
    by_cases c : i < (preL pr U v).length
    · rw [if_pos c, gA i c]
    · rw [if_neg c, List.getElem?_eq_none (by omega)]
  have step : ∀ k R, R = rfN y hi sr (ord k) → ord k < U → (if ((nI y >>> ((nI (ord k)) &&& 31)) &&& (1 : Int32)) = (1 : Int32) then sro (ord k) else hig (ord k)) = nI R := by
    intro k R hR ho
    obtain ⟨a1, a2, a3, a4, a5, a6, a7⟩ := hu (ord k) ho
    rw [hR]
    unfold rfN bt_
    by_cases c : y / 2 ^ (ord k) % 2 = 1
    · rw [if_pos ((bitT hy (by omega)).mpr c), a3, if_pos (decide_eq_true c)]
    · rw [if_neg (fun z => c ((bitT hy (by omega)).mp z)), a2, if_neg (fun z => c (of_decide_eq_true z))]
  have hmin : ∀ a b : Nat, a ≤ 1000 → b ≤ 1000 → f_Math_minI (nI a) (nI b) = nI (min a b) := by
    intro a b ha hb2
    unfold f_Math_minI
    by_cases c : b < a
    · rw [if_pos (nI_lt c (by omega)), Nat.min_eq_right (by omega)]
    · rw [if_neg (nI_nlt (by omega) (by omega)), Nat.min_eq_left (by omega)]
  have hrf : ∀ u, u < U → fl u ≤ rfN y hi sr u ∧ rfN y hi sr u ≤ 1000 := fun u h => by
    obtain ⟨a1, a2, a3, a4, a5, a6, a7⟩ := hu u h
    unfold rfN
    split <;> omega
  intro m
  induction m with
  | zero =>
    intro k n hk hn hkU hs
    rw [Nat.add_zero] at hk
    subst hk
    obtain ⟨n, rfl⟩ : ∃ t, n = t + 1 := ⟨n - 1, by omega⟩
    rw [f_Day_givenBy_L12]
    rw [iteT (show nI (preL pr U v).length < nI U from nI_lt (by omega) (by omega))]
    have hst := step (preL pr U v).length (rfN y hi sr v) (by rw [gV]) (by rw [gV]; exact hv)
    rw [hst, gV, eA] at *
    have g : ((nI x >>> ((nI v) &&& 31)) &&& (1 : Int32)) = (1 : Int32) := (bitT hx (by omega)).mpr (by unfold bt_ at hb; exact of_decide_eq_true hb)
    rw [if_pos g, if_pos rfl, (hu v hv).1, pk_sub (hrf v hv).1, hmin _ _ (by omega) (by have := (hrf v hv).2; omega), nI_add]
  | succ m ih =>
    intro k n hk hn hkU hs
    obtain ⟨n, rfl⟩ : ∃ t, n = t + 1 := ⟨n - 1, by omega⟩
    have hmem := List.mem_of_getElem? (gA k (by omega))
    have hne := preL_no h1 hmem
    have hoU : ord k < U := by
      rcases List.mem_append.mp hmem with z | z
      · exact (mem_BL _ z).1
      · have := (mem_bkt z).1; omega
    rw [f_Day_givenBy_L12]
    rw [iteT (show nI k < nI U from nI_lt (by omega) (by omega))]
    rw [step k _ rfl hoU]
    have hn2 : ¬ nI (ord k) = nI v := fun z => hne ((nI_eq (by omega) (by omega)).mp z)
    have i := ih (k + 1) n (by omega) (by omega) (by omega)
    rw [arr_succ, List.foldl_append] at i
    generalize (arr ord k).foldl (stM x fl (rfN y hi sr) pr) (L, C) = s at hs i
    obtain ⟨s1, s2⟩ := s
    dsimp only at hs i ⊢
    have i2 := i (Nat.le_trans stM_le hs)
    have es : [ord k].foldl (stM x fl (rfN y hi sr) pr) (s1, s2) = stM x fl (rfN y hi sr) pr (s1, s2) (ord k) := rfl
    rw [es] at i2
    unfold stM at i2
    by_cases c : x / 2 ^ (ord k) % 2 = 1
    · have eb : bt_ x (ord k) = true := decide_eq_true c
      rw [eb, if_pos rfl] at i2
      rw [if_pos ((bitT hx (by omega)).mpr c), if_neg hn2, (hu _ hoU).1, pk_sub (hrf _ hoU).1, hmin _ _ (by omega) (by have := (hrf _ hoU).2; omega), pk_sub (Nat.min_le_left _ _)]
      exact i2
    · have eb : bt_ x (ord k) = false := decide_eq_false c
      rw [eb] at i2
      rw [if_neg (fun z => c ((bitT hx (by omega)).mp z))]
      exact i2
end GV2
theorem given_eq {W : Nat → Nat → Int32} {wi U x y h d r v : Nat} {res : Int32} {hig pri flo sro sco gvn : Nat → Int32} {ord : Nat → Nat} {fl hi sr pr sc : Nat → Nat} (hx : x < 2 ^ 31) (hy : y < 2 ^ 31) (hU : U ≤ 4) (hd : (W wi) (3 + h) = nI d) (hd2 : d ≤ 100) (hr : (W wi) 2 = nI r) (hr2 : r ≤ 100) (hres : res = nI r) (hord : arr ord U = BL pr U 9) (hO : ∀ j, j < 4 → ord j < 4) (hu : uOK (W wi) hig pri flo sro sco fl hi sr pr sc U) (hv : v < U) (hm : ¬ f_Model_isMet (W wi) h (nI x) (nI y) U = 0) :
    f_Day_givenBy U hig ord flo sro v (nI d) (nI x) (nI y) = (f_Model_shares W gvn h (nI x) (nI y) wi U).2 v := by
  have hSF := sf_le (x := x) (B := 20) hU (fun u h => (hu u h).2.2.1)
  have hSR := sf_le (x := x) (g := rfN y hi sr) (B := 30) hU (fun u h => rfN_le (hu u h).2.2.2.1 (hu u h).2.2.2.2.1)
  have hm2 := met_eq (f := W wi) (h := h) hx hy hU (fun u h => ⟨(hu u h).2.1.1, (hu u h).2.1.2.2.1, (hu u h).2.1.2.2.2.1⟩) hd hr (by omega) (by omega) (by omega) (by omega)
  have hn : ¬ (d < sumU (SFN x fl) U ∨ sumU (SFN x (rfN y hi sr)) U < d + r) := fun z => hm (by rw [hm2, if_pos z])
  have hv1 := (hu v hv).2.2.2.2.2.2.2.1
  have hv9 := (hu v hv).2.2.2.2.2.2.2.2.1
  have hs := shares_g (W := W) (wi := wi) (h := h) (gvn := gvn) (sc := sc) (x := x) (y := y) (fl := fl) (hi := hi) (sr := sr) (pr := pr) hx hy hU hd (by omega) (show sumU (SFN x fl) U ≤ d by omega) (fun u h => ⟨(hu u h).2.1.1, (hu u h).2.1.2.1, (hu u h).2.1.2.2.1, (hu u h).2.1.2.2.2.1, (hu u h).2.1.2.2.2.2, by have := (hu u h).2.2.2.2.2.2.2.2.1; omega, (hu u h).2.2.2.2.2.1, (hu u h).2.2.2.2.2.2.1, by have := (hu u h).2.2.2.1; omega, by have := (hu u h).2.2.2.2.1; omega⟩) hv hv1 hv9
  rw [hs]
  obtain ⟨s1, -⟩ := sumOf_eq (f := W wi) (fl := fl) (hi := hi) (sr := sr) hx hy hU (fun u h => ⟨(hu u h).2.1.1, (hu u h).2.1.2.2.1, (hu u h).2.1.2.2.2.1⟩)
  have hf := (floors_eq (x := nI x) (y := nI y) hu).trans s1
  unfold f_Day_givenBy
  rw [hf, pk_sub (show sumU (SFN x fl) U ≤ d by omega)]
  cases hb : bt_ x v
  · obtain ⟨p, e⟩ := gb_z (hig := hig) (flo := flo) (sro := sro) (Y := nI y) hx hU hO hv hb (U + 1) 0 (nI (d - sumU (SFN x fl) U)) (by omega)
    rw [e]
    rfl
  · have k := gb_s (hig := hig) (flo := flo) (sro := sro) (ord := ord) (pr := pr) hx hy hU (fun u h => ⟨(hu u h).1.1, (hu u h).1.2.1, (hu u h).1.2.2.1, (hu u h).2.2.2.2.2.1, (hu u h).2.2.2.2.2.2.1, by have := (hu u h).2.2.2.1; omega, by have := (hu u h).2.2.2.2.1; omega⟩) hv hb hv1 hv9 (L := d - sumU (SFN x fl) U) (C := sumU (SFN y sc) U) (by omega) hord (preL pr U v).length 0 (U + 1) (by omega) (by omega) (Nat.zero_le _) (Nat.le_refl _)
    have e0 : (arr ord 0).foldl (stM x fl (rfN y hi sr) pr) (d - sumU (SFN x fl) U, sumU (SFN y sc) U) = (d - sumU (SFN x fl) U, sumU (SFN y sc) U) := rfl
    rw [e0] at k
    dsimp only at k
    rw [k]
    rfl
