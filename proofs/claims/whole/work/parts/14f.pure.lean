theorem vl_s {f : Nat → Int64} {k : Nat} {x : Int64} : vp_updL f k x k = x := by unfold vp_updL; rw [if_pos rfl]
theorem vl_n {f : Nat → Int64} {k j : Nat} {x : Int64} (h : j ≠ k) : vp_updL f k x j = f j := by unfold vp_updL; rw [if_neg h]
theorem lo_tab : ((List.range 6).all fun h => (List.range (2 ^ h)).all fun s => (decide (s ||| 2 ^ h = s + 2 ^ h)) && (decide (¬ f_Model_has (nI (s + 2 ^ h)) (nI h) = 0)) && (decide (f_Model_has (nI s) (nI h) = 0)) && (decide (((if (if ((nI s) &&& ((nI (2 ^ h)) >>> ((1 : Int32) &&& 31))) = (0 : Int32) then (0 : Int32) else (1 : Int32)) = (0 : Int32) then (1 : Int32) else 0)) = f_Model_starts (nI (s + 2 ^ h)) (nI h))) && (decide ((f_bitCount (f_startsAmong (nI (s + 2 ^ h)))).toInt64 = (f_bitCount (f_startsAmong (nI s))).toInt64 + (f_Model_starts (nI (s + 2 ^ h)) (nI h)).toInt64)) && (List.range h).all fun j => decide (f_Model_has (nI (s + 2 ^ h)) (nI j) = f_Model_has (nI s) (nI j) ∧ f_Model_starts (nI (s + 2 ^ h)) (nI j) = f_Model_starts (nI s) (nI j))) = true := by decide +kernel
theorem lo_fact {h s : Nat} (hh : h < 6) (hs : s < 2 ^ h) : (s ||| 2 ^ h = s + 2 ^ h) ∧ (¬ f_Model_has (nI (s + 2 ^ h)) (nI h) = 0) ∧ f_Model_has (nI s) (nI h) = 0 ∧ ((if (if ((nI s) &&& ((nI (2 ^ h)) >>> ((1 : Int32) &&& 31))) = (0 : Int32) then (0 : Int32) else (1 : Int32)) = (0 : Int32) then (1 : Int32) else 0) = f_Model_starts (nI (s + 2 ^ h)) (nI h)) ∧ ((f_bitCount (f_startsAmong (nI (s + 2 ^ h)))).toInt64 = (f_bitCount (f_startsAmong (nI s))).toInt64 + (f_Model_starts (nI (s + 2 ^ h)) (nI h)).toInt64) ∧ ∀ j, j < h → f_Model_has (nI (s + 2 ^ h)) (nI j) = f_Model_has (nI s) (nI j) ∧ f_Model_starts (nI (s + 2 ^ h)) (nI j) = f_Model_starts (nI s) (nI j) := by
  have k := List.all_eq_true.mp (List.all_eq_true.mp lo_tab h (List.mem_range.mpr hh)) s (List.mem_range.mpr hs)
  simp only [Bool.and_eq_true] at k
  obtain ⟨⟨⟨⟨⟨k1, k2⟩, k3⟩, k4⟩, k5⟩, k6⟩ := k
  exact ⟨of_decide_eq_true k1, of_decide_eq_true k2, of_decide_eq_true k3, of_decide_eq_true k4, of_decide_eq_true k5, fun j hj => of_decide_eq_true (List.all_eq_true.mp k6 j (List.mem_range.mpr hj))⟩
theorem L53_sp {n : Nat} {x5 x7 : Int64} {lz : Nat → Int64} (hn : ∀ k, k < n → k ||| n = k + n) : ∀ m, m ≤ n → (∀ s, s < n → f_Lone_fillLosses_L53 n x5 x7 lz m s = lz s) ∧ ∀ k, k < m → f_Lone_fillLosses_L53 n x5 x7 lz m (k + n) = lz k + (if (if ((nI k) &&& ((nI n) >>> ((1 : Int32) &&& 31))) = (0 : Int32) then (0 : Int32) else (1 : Int32)) = (0 : Int32) then x7 else x5) := by
  intro m
  induction m with
  | zero => intro _; exact ⟨fun _ _ => rfl, fun k h => absurd h (Nat.not_lt_zero _)⟩
  | succ m ih =>
    intro hm
    obtain ⟨i1, i2⟩ := ih (by omega)
    have e : f_Lone_fillLosses_L53 n x5 x7 lz (m + 1) = f_Lone_fillLosses_L53s n x5 x7 m (f_Lone_fillLosses_L53 n x5 x7 lz m) := rfl
    rw [e]
    unfold f_Lone_fillLosses_L53s
    rw [hn m (by omega)]
    refine ⟨fun s hs => ?_, fun k hk => ?_⟩
    · rw [vl_n (by omega)]; exact i1 s hs
    · by_cases c : k = m
      · subst c
        rw [vl_s, i1 k (by omega)]
      · rw [vl_n (by omega)]; exact i2 k (by omega)
section LO
variable {W : Nat → Nat → Int32} {wi U H u : Nat} {mpr lp : Nat → Int64} {kin hig pri ups dow flo sro sco : Nat → Int32}
theorem gA_eq {s h : Nat} {p : Int64} : f_Model_givesAlone (W wi) u (nI s) (nI h) p = (if f_Model_has (nI s) (nI h) = 0 then 0 else if ((W wi) ((9 + (8 * u)) + 3)).toInt64 < p then (f_Model_roof (W wi) u (f_Model_starts (nI s) (nI h))).toInt64 else (f_Model_floor (W wi) u).toInt64) := rfl
theorem L47_add {s : Nat} {x d : Int64} : ∀ k, f_Model_goesAlone_L47 W mpr wi u s (x + d) k = f_Model_goesAlone_L47 W mpr wi u s x k + d := by
  intro k
  induction k with
  | zero => rfl
  | succ k ih =>
    show f_Model_goesAlone_L47s W mpr wi u s k (f_Model_goesAlone_L47 W mpr wi u s (x + d) k) = f_Model_goesAlone_L47s W mpr wi u s k (f_Model_goesAlone_L47 W mpr wi u s x k) + d
    rw [ih]
    unfold f_Model_goesAlone_L47s
    rw [Int64.add_assoc, Int64.add_assoc, Int64.add_comm d]
theorem L47_cg {s t : Nat} {x : Int64} : ∀ k, (∀ j, j < k → f_Model_has (nI s) (nI j) = f_Model_has (nI t) (nI j) ∧ f_Model_starts (nI s) (nI j) = f_Model_starts (nI t) (nI j)) → f_Model_goesAlone_L47 W mpr wi u s x k = f_Model_goesAlone_L47 W mpr wi u t x k := by
  intro k
  induction k with
  | zero => intro _; rfl
  | succ k ih =>
    intro h
    show f_Model_goesAlone_L47s W mpr wi u s k (f_Model_goesAlone_L47 W mpr wi u s x k) = f_Model_goesAlone_L47s W mpr wi u t k (f_Model_goesAlone_L47 W mpr wi u t x k)
    rw [ih (fun j hj => h j (by omega))]
    unfold f_Model_goesAlone_L47s
    rw [gA_eq, gA_eq, (h k (by omega)).1, (h k (by omega)).2]
def lsV (W : Nat → Nat → Int32) (mpr : Nat → Int64) (wi u s k : Nat) : Int64 := f_Model_goesAlone_L47 W mpr wi u s (((f_Model_startCost (W wi) u).toInt64) * ((f_bitCount (f_startsAmong (nI s))).toInt64)) k
theorem lsV_lo {s h : Nat} (hh : h < 6) (hs : s < 2 ^ h) : lsV W mpr wi u s (h + 1) = lsV W mpr wi u s h := by
  show f_Model_goesAlone_L47s W mpr wi u s h (lsV W mpr wi u s h) = _
  unfold f_Model_goesAlone_L47s
  rw [gA_eq, if_pos (lo_fact hh hs).2.2.1, Int64.zero_mul, Int64.add_zero]
theorem st01 {s h : Int32} : f_Model_starts s h = 0 ∨ f_Model_starts s h = 1 := by
  unfold f_Model_starts
  (repeat' split) <;> first | exact Or.inl rfl | exact Or.inr rfl
theorem lsV_hi {s h : Nat} (hh : h < 6) (hs : s < 2 ^ h) (h1 : flo u = f_Model_floor (W wi) u) (h2 : hig u = f_Model_roof (W wi) u 0) (h3 : sro u = f_Model_roof (W wi) u 1) (h4 : pri u = (W wi) ((9 + (8 * u)) + 3)) (h5 : sco u = f_Model_startCost (W wi) u) (hp : lp h = mpr h) :
    lsV W mpr wi u (s + 2 ^ h) (h + 1) = lsV W mpr wi u s h + (if (if ((nI s) &&& ((nI (2 ^ h)) >>> ((1 : Int32) &&& 31))) = (0 : Int32) then (0 : Int32) else (1 : Int32)) = (0 : Int32) then (f_Lone_lossIn lp hig pri flo sro u h (1 : Int32)) + ((sco u).toInt64) else f_Lone_lossIn lp hig pri flo sro u h (0 : Int32)) := by
  obtain ⟨k1, k2, k3, k4, k5, k6⟩ := lo_fact hh hs
  show f_Model_goesAlone_L47s W mpr wi u (s + 2 ^ h) h (lsV W mpr wi u (s + 2 ^ h) h) = _
  have e1 : lsV W mpr wi u (s + 2 ^ h) h = lsV W mpr wi u s h + (f_Model_startCost (W wi) u).toInt64 * (f_Model_starts (nI (s + 2 ^ h)) (nI h)).toInt64 := by
    unfold lsV
    rw [L47_cg (t := s) h (fun j hj => k6 j hj), k5, Int64.mul_add, L47_add]
  unfold f_Model_goesAlone_L47s
  rw [e1, gA_eq, if_neg k2]
  unfold f_Lone_lossIn f_Lone_powerIn
  rw [hp, h1, h2, h3, h4, h5]
  rcases st01 (s := nI (s + 2 ^ h)) (h := nI h) with z | z
  · rw [z] at k4 ⊢
    have c : ¬ (if ((nI s) &&& ((nI (2 ^ h)) >>> ((1 : Int32) &&& 31))) = (0 : Int32) then (0 : Int32) else (1 : Int32)) = (0 : Int32) := fun y => by rw [if_pos y] at k4; exact absurd k4 (by decide)
    rw [if_neg c, iteT (show (0 : Int32) = 0 from rfl)]
    show lsV W mpr wi u s h + (f_Model_startCost (W wi) u).toInt64 * 0 + _ = _
    rw [Int64.mul_zero, Int64.add_zero]
  · rw [z] at k4 ⊢
    have c : (if ((nI s) &&& ((nI (2 ^ h)) >>> ((1 : Int32) &&& 31))) = (0 : Int32) then (0 : Int32) else (1 : Int32)) = (0 : Int32) := by
      by_cases y : (if ((nI s) &&& ((nI (2 ^ h)) >>> ((1 : Int32) &&& 31))) = (0 : Int32) then (0 : Int32) else (1 : Int32)) = (0 : Int32)
      · exact y
      · rw [if_neg y] at k4; exact absurd k4 (by decide)
    rw [if_pos c, iteF (show ¬ (1 : Int32) = 0 by decide)]
    show lsV W mpr wi u s h + (f_Model_startCost (W wi) u).toInt64 * 1 + _ = _
    rw [Int64.mul_one, Int64.add_assoc, Int64.add_comm (f_Model_startCost (W wi) u).toInt64]
theorem L9_sp {lz : Nat → Int64} (hH : H ≤ 6) (h1 : flo u = f_Model_floor (W wi) u) (h2 : hig u = f_Model_roof (W wi) u 0) (h3 : sro u = f_Model_roof (W wi) u 1) (h4 : pri u = (W wi) ((9 + (8 * u)) + 3)) (h5 : sco u = f_Model_startCost (W wi) u) (hp : ∀ h, h < H → lp h = mpr h) : ∀ h, h ≤ H → ∀ s, s < 2 ^ h → f_Lone_fillLosses_L9 lp hig pri flo sro sco u (vp_updL lz 0 (0 : Int64)) h s = lsV W mpr wi u s h := by
  intro h
  induction h with
  | zero =>
    intro _ s hs
    have : s = 0 := by omega
    subst this
    show vp_updL lz 0 (0 : Int64) 0 = (f_Model_startCost (W wi) u).toInt64 * (f_bitCount (f_startsAmong (nI 0))).toInt64
    rw [vl_s, show (f_bitCount (f_startsAmong (nI 0))).toInt64 = 0 by decide +kernel, Int64.mul_zero]
  | succ h ih =>
    intro hh s hs
    have i := ih (by omega)
    show f_Lone_fillLosses_L9s lp hig pri flo sro sco u h (f_Lone_fillLosses_L9 lp hig pri flo sro sco u (vp_updL lz 0 (0 : Int64)) h) s = _
    unfold f_Lone_fillLosses_L9s
    dsimp only
    obtain ⟨q1, q2⟩ := L53_sp (n := 2 ^ h) (x5 := f_Lone_lossIn lp hig pri flo sro u h (0 : Int32)) (x7 := (f_Lone_lossIn lp hig pri flo sro u h (1 : Int32)) + ((sco u).toInt64)) (lz := f_Lone_fillLosses_L9 lp hig pri flo sro sco u (vp_updL lz 0 (0 : Int64)) h) (fun k hk => (lo_fact (by omega) hk).1) (2 ^ h) (Nat.le_refl _)
    have h2s : 2 ^ (h + 1) = 2 ^ h + 2 ^ h := by rw [Nat.pow_succ]; omega
    rcases Nat.lt_or_ge s (2 ^ h) with c | c
    · rw [q1 s c, lsV_lo (by omega) c]; exact i s c
    · have hk := q2 (s - 2 ^ h) (by omega)
      rw [show s - 2 ^ h + 2 ^ h = s by omega] at hk
      have hl := lsV_hi (W := W) (wi := wi) (u := u) (mpr := mpr) (lp := lp) (s := s - 2 ^ h) (show h < 6 by omega) (by omega) h1 h2 h3 h4 h5 (hp h (by omega))
      rw [show s - 2 ^ h + 2 ^ h = s by omega] at hl
      rw [hk, hl, i _ (by omega)]
end LO
