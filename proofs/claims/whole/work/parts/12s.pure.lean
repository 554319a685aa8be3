abbrev two : Nat → Nat := fun _ => 2
def onC (w : Nat) : Nat := numz two (fun u => if w / 3 ^ u % 3 = 0 then 0 else 1) 4
def stC (w : Nat) : Nat := numz two (fun u => if w / 3 ^ u % 3 = 2 then 1 else 0) 4
def L32T (U w : Nat) : Bool := (f_Model_fillsCosts_L32 U (0 : Int32) (0 : Int32) (nI w) (1 : Int32) 4).1 == nI (onC w) && ((f_Model_fillsCosts_L32 U (0 : Int32) (0 : Int32) (nI w) (1 : Int32) 4).2.1 == nI (stC w) && (f_Model_fillsCosts_L32 U (0 : Int32) (0 : Int32) (nI w) (1 : Int32) 4).2.2.2 == (if w < 3 ^ U then 1 else 0))
theorem L32_all : ((List.range 5).all fun U => (List.range 81).all fun w => L32T U w) = true := by decide +kernel
theorem L32_eq {U w : Nat} (hU : U ≤ 4) (hw : w < 81) : (f_Model_fillsCosts_L32 U (0 : Int32) (0 : Int32) (nI w) (1 : Int32) 4).1 = nI (onC w) ∧ (f_Model_fillsCosts_L32 U (0 : Int32) (0 : Int32) (nI w) (1 : Int32) 4).2.1 = nI (stC w) ∧ (f_Model_fillsCosts_L32 U (0 : Int32) (0 : Int32) (nI w) (1 : Int32) 4).2.2.2 = (if w < 3 ^ U then 1 else 0) := by
  have a1 := List.all_eq_true.mp L32_all U (List.mem_range.mpr (by omega))
  have a2 := List.all_eq_true.mp a1 w (List.mem_range.mpr hw)
  unfold L32T at a2
  simp only [Bool.and_eq_true] at a2
  exact ⟨eq_of_beq a2.1, eq_of_beq a2.2.1, eq_of_beq a2.2.2⟩
theorem pw2 : ∀ u, pwz two u = 2 ^ u := by
  intro u
  induction u with
  | zero => rfl
  | succ u ih => rw [pwz, ih, Nat.pow_succ]
theorem bt_num {d : Nat → Nat} (hd : ∀ u, u < 4 → d u < 2) {u : Nat} (hu : u < 4) : bt_ (numz two d 4) u = decide (d u = 1) := by
  have h := digz_num (z := two) (d := d) (U := 4) hd u hu
  unfold digz at h
  rw [pw2] at h
  unfold bt_
  rw [show numz two d 4 / 2 ^ u % 2 = d u from h]
theorem onC_lt {w : Nat} : onC w < 16 := by
  unfold onC
  have h := numz_lt (z := two) (d := fun u => if w / 3 ^ u % 3 = 0 then 0 else 1) (U := 4) (fun u _ => by show (if _ then 0 else 1) < 2; split <;> decide)
  rw [pw2] at h
  exact h
theorem stC_lt {w : Nat} : stC w < 16 := by
  unfold stC
  have h := numz_lt (z := two) (d := fun u => if w / 3 ^ u % 3 = 2 then 1 else 0) (U := 4) (fun u _ => by show (if _ then 1 else 0) < 2; split <;> decide)
  rw [pw2] at h
  exact h
theorem numz_hi {z d : Nat → Nat} {U : Nat} : ∀ k, (∀ u, U ≤ u → d u = 0) → numz z d (U + k) = numz z d U := by
  intro k h
  induction k with
  | zero => rfl
  | succ k ih =>
    show numz z d (U + k) + d (U + k) * pwz z (U + k) = numz z d U
    rw [ih, h _ (by omega), Nat.zero_mul, Nat.add_zero]
theorem dig3 {wd : Nat → Nat} {U : Nat} (hwd : ∀ u, wd u < 3) : ∀ u, numz three wd U / 3 ^ u % 3 = if u < U then wd u else 0 := by
  intro u
  by_cases c : u < U
  · rw [if_pos c]
    have h := digz_num (z := three) (d := wd) (U := U) (fun v _ => hwd v) u c
    unfold digz at h
    rw [pw3] at h
    exact h
  · rw [if_neg c]
    have h := numz_lt (z := three) (d := wd) (U := U) (fun v _ => hwd v)
    rw [pw3] at h
    have h2 : 3 ^ U ≤ 3 ^ u := Nat.pow_le_pow_right (by decide) (by omega)
    rw [Nat.div_eq_of_lt (by omega)]
theorem onC_eq {wd : Nat → Nat} {U x : Nat} (hU : U ≤ 4) (hx : x < 2 ^ U) (hwd : ∀ u, wd u < 3) (h : ∀ u, u < U → (wd u = 0 ↔ ¬ x / 2 ^ u % 2 = 1)) : onC (numz three wd U) = x := by
  have e1 : onC (numz three wd U) = numz two (fun u => if u < U then x / 2 ^ u % 2 else 0) 4 := by
    unfold onC
    refine numz_congr (fun u hu => ?_)
    rw [dig3 hwd u]
    by_cases c : u < U
    · rw [if_pos c, if_pos c]
      rcases Nat.mod_two_eq_zero_or_one (x / 2 ^ u) with z | z
      · rw [z, if_pos ((h u c).mpr (by omega))]
      · rw [z, if_neg (fun w => (h u c).mp w z)]
    · rw [if_neg c, if_neg c]; rfl
  rw [e1, show 4 = U + (4 - U) by omega, numz_hi (4 - U) (fun u hu => if_neg (by omega)), numz_congr (d' := digz two x) (fun u hu => by rw [if_pos hu]; unfold digz; rw [pw2]), numz_dig, pw2, Nat.mod_eq_of_lt hx]
theorem fc11 {W : Nat → Nat → Int32} {wi U n2 : Nat} {gvn costs : Nat → Int32} : ∀ k, (∀ j, (j < 81 * n2 ∨ 81 * n2 + k ≤ j) → (f_Model_fillsCosts_L11 W wi U n2 gvn costs k).2 j = costs j) ∧ ∀ w, w < k → ∃ g, (f_Model_fillsCosts_L11 W wi U n2 gvn costs k).2 (81 * n2 + w) = (if (f_Model_fillsCosts_L32 U (0 : Int32) (0 : Int32) (nI w) (1 : Int32) 4).2.2.2 = (0 : Int32) then (100000000 : Int32) else if (f_Model_isMet (W wi) n2 (f_Model_fillsCosts_L32 U (0 : Int32) (0 : Int32) (nI w) (1 : Int32) 4).1 (f_Model_fillsCosts_L32 U (0 : Int32) (0 : Int32) (nI w) (1 : Int32) 4).2.1 U) = (0 : Int32) then (100000000 : Int32) else (f_Model_shares W g n2 (f_Model_fillsCosts_L32 U (0 : Int32) (0 : Int32) (nI w) (1 : Int32) 4).1 (f_Model_fillsCosts_L32 U (0 : Int32) (0 : Int32) (nI w) (1 : Int32) 4).2.1 wi U).1) := by
  intro k
  induction k with
  | zero => exact ⟨fun j _ => rfl, fun w h => absurd h (Nat.not_lt_zero _)⟩
  | succ k ih =>
    have e : (f_Model_fillsCosts_L11 W wi U n2 gvn costs (k + 1)).2 = upd (f_Model_fillsCosts_L11 W wi U n2 gvn costs k).2 ((81 * n2) + k) (if (f_Model_fillsCosts_L32 U (0 : Int32) (0 : Int32) (nI k) (1 : Int32) 4).2.2.2 = (0 : Int32) then (100000000 : Int32) else if (f_Model_isMet (W wi) n2 (f_Model_fillsCosts_L32 U (0 : Int32) (0 : Int32) (nI k) (1 : Int32) 4).1 (f_Model_fillsCosts_L32 U (0 : Int32) (0 : Int32) (nI k) (1 : Int32) 4).2.1 U) = (0 : Int32) then (100000000 : Int32) else (f_Model_shares W (f_Model_fillsCosts_L11 W wi U n2 gvn costs k).1 n2 (f_Model_fillsCosts_L32 U (0 : Int32) (0 : Int32) (nI k) (1 : Int32) 4).1 (f_Model_fillsCosts_L32 U (0 : Int32) (0 : Int32) (nI k) (1 : Int32) 4).2.1 wi U).1) := rfl
    rw [e]
    refine ⟨fun j hj => by rw [pk_un (by omega)]; exact ih.1 j (by omega), fun w hw => ?_⟩
    by_cases q : w = k
    · subst q
      exact ⟨_, pk_us⟩
    · rw [pk_un (by omega)]
      exact ih.2 w (by omega)
theorem fc2 {W : Nat → Nat → Int32} {wi U : Nat} {gvn costs : Nat → Int32} : ∀ n h w, h < n → w < 81 → ∃ g, (f_Model_fillsCosts_L2 W wi U gvn costs n).2 (81 * h + w) = (if (f_Model_fillsCosts_L32 U (0 : Int32) (0 : Int32) (nI w) (1 : Int32) 4).2.2.2 = (0 : Int32) then (100000000 : Int32) else if (f_Model_isMet (W wi) h (f_Model_fillsCosts_L32 U (0 : Int32) (0 : Int32) (nI w) (1 : Int32) 4).1 (f_Model_fillsCosts_L32 U (0 : Int32) (0 : Int32) (nI w) (1 : Int32) 4).2.1 U) = (0 : Int32) then (100000000 : Int32) else (f_Model_shares W g h (f_Model_fillsCosts_L32 U (0 : Int32) (0 : Int32) (nI w) (1 : Int32) 4).1 (f_Model_fillsCosts_L32 U (0 : Int32) (0 : Int32) (nI w) (1 : Int32) 4).2.1 wi U).1) := by
  intro n
  induction n with
  | zero => intro h w hh; exact absurd hh (Nat.not_lt_zero _)
  | succ n ih =>
    intro h w hh hw
    have e : (f_Model_fillsCosts_L2 W wi U gvn costs (n + 1)).2 = (f_Model_fillsCosts_L11 W wi U n (f_Model_fillsCosts_L2 W wi U gvn costs n).1 (f_Model_fillsCosts_L2 W wi U gvn costs n).2 81).2 := rfl
    rw [e]
    by_cases q : h = n
    · subst q
      exact (fc11 81).2 w hw
    · rw [(fc11 81).1 _ (by omega)]
      exact ih h w (by omega) hw
