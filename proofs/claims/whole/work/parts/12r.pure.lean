def uOK (f : Nat → Int32) (hig pri flo sro sco : Nat → Int32) (fl hi sr pr sc : Nat → Nat) (U : Nat) : Prop := ∀ u, u < U →
  (flo u = nI (fl u) ∧ hig u = nI (hi u) ∧ sro u = nI (sr u) ∧ pri u = nI (pr u) ∧ sco u = nI (sc u)) ∧
  (f_Model_floor f u = nI (fl u) ∧ f_Model_startCost f u = nI (sc u) ∧ f_Model_roof f u 0 = nI (hi u) ∧ f_Model_roof f u 1 = nI (sr u) ∧ f ((9 + (8 * u)) + 3) = nI (pr u)) ∧
  (fl u ≤ 20 ∧ hi u ≤ 30 ∧ sr u ≤ 30 ∧ fl u ≤ hi u ∧ fl u ≤ sr u ∧ 1 ≤ pr u ∧ pr u ≤ 9 ∧ sc u ≤ 40)
theorem sf_le {x U : Nat} {g : Nat → Nat} {B : Nat} (hU : U ≤ 4) (hg : ∀ u, u < U → g u ≤ B) : sumU (SFN x g) U ≤ 4 * B := by
  refine Nat.le_trans (sumU_le (B := B) (fun u hu => ?_)) (Nat.mul_le_mul_right _ hU)
  unfold SFN
  split
  · exact hg u hu
  · exact Nat.zero_le _
theorem rfN_le {y u B : Nat} {hi sr : Nat → Nat} (h1 : hi u ≤ B) (h2 : sr u ≤ B) : rfN y hi sr u ≤ B := by
  unfold rfN
  split
  · exact h2
  · exact h1
theorem hour_eq {W : Nat → Nat → Int32} {wi U x y h d r : Nat} {res : Int32} {hig pri flo sro sco gvn : Nat → Int32} {ord : Nat → Nat} {fl hi sr pr sc : Nat → Nat} (hx : x < 2 ^ 31) (hy : y < 2 ^ 31) (hU : U ≤ 4) (hd : (W wi) (3 + h) = nI d) (hd2 : d ≤ 100) (hr : (W wi) 2 = nI r) (hr2 : r ≤ 100) (hres : res = nI r) (hord : arr ord U = BL pr U 9) (hu : uOK (W wi) hig pri flo sro sco fl hi sr pr sc U) (hsub : ∀ u, u < U → bt_ y u = true → bt_ x u = true) :
    f_Day_hourCost U res hig pri ord flo sro sco (nI d) (nI x) (nI y) = (if f_Model_isMet (W wi) h (nI x) (nI y) U = 0 then (-1000000 : Int32) else (f_Model_shares W gvn h (nI x) (nI y) wi U).1) ∧
    (f_Day_hourCost U res hig pri ord flo sro sco (nI d) (nI x) (nI y) = -1000000 ∨ ∃ v, v ≤ 32767 ∧ f_Day_hourCost U res hig pri ord flo sro sco (nI d) (nI x) (nI y) = nI v) := by
  have hSF := sf_le (x := x) (B := 20) hU (fun u h => (hu u h).2.2.1)
  have hSR := sf_le (x := x) (g := rfN y hi sr) (B := 30) hU (fun u h => rfN_le (hu u h).2.2.2.1 (hu u h).2.2.2.2.1)
  have hc := hc_spec (sc := sc) hx hy hU (d := d) (r := r) (by omega) (by omega) hres hord (fun u h => ⟨(hu u h).1.1, (hu u h).1.2.1, (hu u h).1.2.2.1, (hu u h).1.2.2.2.1, (hu u h).1.2.2.2.2, (hu u h).2.2.2.2.2.1, (hu u h).2.2.2.2.2.2.1, by have := (hu u h).2.2.2.1; omega, by have := (hu u h).2.2.2.2.1; omega⟩) (fun u h => ⟨(hu u h).2.2.2.2.2.2.2.1, (hu u h).2.2.2.2.2.2.2.2.1⟩) (by omega) (by omega)
  have hm := met_eq (f := W wi) (h := h) hx hy hU (fun u h => ⟨(hu u h).2.1.1, (hu u h).2.1.2.2.1, (hu u h).2.1.2.2.2.1⟩) hd hr (by omega) (by omega) (by omega) (by omega)
  have hsc : sumU (SFN y sc) U = sumU (scE x y sc) U := sumU_congr (fun u h => by
    unfold SFN scE
    cases c : bt_ y u
    · cases bt_ x u <;> rfl
    · rw [hsub u h c]; rfl)
  rw [hm, hc]
  by_cases c : d < sumU (SFN x fl) U ∨ sumU (SFN x (rfN y hi sr)) U < d + r
  · rw [if_pos c, if_pos c, if_pos rfl]
    exact ⟨rfl, Or.inl rfl⟩
  · rw [if_neg c, if_neg c, if_neg (by decide)]
    have hs := shares_eq (W := W) (wi := wi) (h := h) (gvn := gvn) (sc := sc) hx hy hU hd (by omega) (show sumU (SFN x fl) U ≤ d by omega) (fun u h => ⟨(hu u h).2.1.1, (hu u h).2.1.2.1, (hu u h).2.1.2.2.1, (hu u h).2.1.2.2.2.1, (hu u h).2.1.2.2.2.2, by have := (hu u h).2.2.2.2.2.2.2.2.1; omega, (hu u h).2.2.2.2.2.1, (hu u h).2.2.2.2.2.2.1, by have := (hu u h).2.2.2.1; omega, by have := (hu u h).2.2.2.2.1; omega⟩)
    refine ⟨by rw [hs, hsc], Or.inr ⟨_, ?_, rfl⟩⟩
    have hlen : (BL pr U 9).length = U := by rw [← hord, arr_len]
    have hb := fold_bd (x := x) (fl := fl) (pr := pr) (rf := rfN y hi sr) (BL pr U 9) (d - sumU (SFN x fl) U) 0 (fun u h => by
      have hlt := (mem_BL _ h).1
      have hk := (hu u hlt).2.2
      exact ⟨by omega, rfN_le (by omega) (by omega), by omega⟩)
    rw [hlen, Nat.zero_add] at hb
    have hb2 : U * 1800 ≤ 4 * 1800 := Nat.mul_le_mul_right _ hU
    have he : sumU (scE x y sc) U ≤ 4 * 40 := Nat.le_trans (sumU_le (B := 40) (fun u h => by
      have := (hu u h).2.2.2.2.2.2.2.2.2
      unfold scE
      (repeat' split) <;> omega)) (Nat.mul_le_mul_right _ hU)
    omega
theorem fold_congr {x y y' : Nat} {fl hi sr pr : Nat → Nat} : ∀ (l : List Nat) (s : Nat × Nat), (∀ u, u ∈ l → rfN y hi sr u = rfN y' hi sr u) → l.foldl (stM x fl (rfN y hi sr) pr) s = l.foldl (stM x fl (rfN y' hi sr) pr) s := by
  intro l
  induction l with
  | nil => intro s _; rfl
  | cons u l ih =>
    intro s h
    show l.foldl (stM x fl (rfN y hi sr) pr) (stM x fl (rfN y hi sr) pr s u) = l.foldl (stM x fl (rfN y' hi sr) pr) (stM x fl (rfN y' hi sr) pr s u)
    have e : stM x fl (rfN y hi sr) pr s u = stM x fl (rfN y' hi sr) pr s u := by
      unfold stM
      rw [h u (List.mem_cons_self ..)]
    rw [e]
    exact ih _ (fun v hv => h v (List.mem_cons_of_mem _ hv))
theorem hour_st {f : Nat → Int32} {U x y y' d r : Nat} {res : Int32} {hig pri flo sro sco : Nat → Int32} {ord : Nat → Nat} {fl hi sr pr sc : Nat → Nat} (hx : x < 2 ^ 31) (hy : y < 2 ^ 31) (hy' : y' < 2 ^ 31) (hU : U ≤ 4) (hd2 : d ≤ 100) (hr2 : r ≤ 100) (hres : res = nI r) (hord : arr ord U = BL pr U 9) (hu : uOK f hig pri flo sro sco fl hi sr pr sc U) (hyy : ∀ u, u < U → bt_ y u = bt_ y' u ∨ (sr u = hi u ∧ sc u = 0)) :
    f_Day_hourCost U res hig pri ord flo sro sco (nI d) (nI x) (nI y) = f_Day_hourCost U res hig pri ord flo sro sco (nI d) (nI x) (nI y') := by
  have hrf : ∀ u, u < U → rfN y hi sr u = rfN y' hi sr u := fun u h => by
    unfold rfN
    rcases hyy u h with z | z
    · rw [z]
    · rw [z.1]; (repeat' split) <;> rfl
  have hse : sumU (scE x y sc) U = sumU (scE x y' sc) U := sumU_congr (fun u h => by
    unfold scE
    rcases hyy u h with z | z
    · rw [z]
    · rw [z.2]; (repeat' split) <;> rfl)
  have hSF := sf_le (x := x) (B := 20) hU (fun u h => (hu u h).2.2.1)
  have hSR : ∀ w, sumU (SFN x (rfN w hi sr)) U ≤ 4 * 30 := fun w => sf_le (x := x) (g := rfN w hi sr) (B := 30) hU (fun u h => rfN_le (hu u h).2.2.2.1 (hu u h).2.2.2.2.1)
  have hcc : ∀ w, w < 2 ^ 31 → f_Day_hourCost U res hig pri ord flo sro sco (nI d) (nI x) (nI w) = _ := fun w hw => hc_spec (sc := sc) hx hw hU (d := d) (r := r) (by omega) (by omega) hres hord (fun u h => ⟨(hu u h).1.1, (hu u h).1.2.1, (hu u h).1.2.2.1, (hu u h).1.2.2.2.1, (hu u h).1.2.2.2.2, (hu u h).2.2.2.2.2.1, (hu u h).2.2.2.2.2.2.1, by have := (hu u h).2.2.2.1; omega, by have := (hu u h).2.2.2.2.1; omega⟩) (fun u h => ⟨(hu u h).2.2.2.2.2.2.2.1, (hu u h).2.2.2.2.2.2.2.2.1⟩) (by omega) (by have := hSR w; omega)
  have hsr : sumU (SFN x (rfN y hi sr)) U = sumU (SFN x (rfN y' hi sr)) U := sumU_congr (fun u h => by unfold SFN; rw [hrf u h])
  rw [hcc y hy, hcc y' hy', hsr, hse, fold_congr _ _ (fun u h => hrf u (mem_BL _ h).1)]
