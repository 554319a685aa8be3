def encO (o : Option Nat) : Int32 := match o with
  | none => -1000000
  | some n => nI n
theorem goes_eq {f : Nat → Int32} {u wa : Nat} {onb lost : Int32} {pu pd : Nat} {b : Bool} (hpu : f ((9 + (8 * u)) + 5) = nI pu) (hpd : f ((9 + (8 * u)) + 6) = nI pd) (h1 : 1 ≤ pu ∧ pu ≤ 3) (h2 : 1 ≤ pd ∧ pd ≤ 3) (hwa : wa ≤ 5) (hb : onb = if b then 1 else 0) : f_Model_goes f u wa onb lost = encO (mGo (uMd lost (fun v => f (9 + 8 * v)) u) pu pd wa b) := by
  unfold f_Model_goes uMd f_Model_sortOf
  rw [hpu, hpd]
  subst hb
  by_cases c : nI u = lost
  · rw [if_pos c, if_pos c]
    cases b <;> rfl
  · rw [if_neg c, if_neg c]
    have hp : pu = 1 ∨ pu = 2 ∨ pu = 3 := by omega
    have hd : pd = 1 ∨ pd = 2 ∨ pd = 3 := by omega
    have hw : wa = 0 ∨ wa = 1 ∨ wa = 2 ∨ wa = 3 ∨ wa = 4 ∨ wa = 5 := by omega
    by_cases k : f (9 + 8 * u) = 5
    · simp only [if_pos k]
      clear hpu hpd
      cases b
      · rfl
      · rcases hw with h | h | h | h | h | h <;> subst h <;> rfl
    · simp only [if_neg k]
      clear hpu hpd
      cases b
      · rcases hp with p | p | p <;> subst p <;> rcases hd with d | d | d <;> subst d <;> rcases hw with h | h | h | h | h | h <;> subst h <;> decide
      · rcases hw with h | h | h | h | h | h <;> subst h <;> rfl
theorem chC_none {of_ on_ : Nat → Nat → Option Nat} {x s k : Nat} (h : chC of_ on_ k x s = none) : ∀ j, k ≤ j → chC of_ on_ j x s = none := by
  intro j
  induction j with
  | zero => intro hj; rw [show k = 0 by omega] at h; exact h
  | succ j ih =>
    intro hj
    rcases Nat.lt_or_ge j k with q | q
    · rw [show j + 1 = k by omega]; exact h
    · show (chC of_ on_ j x s).bind _ = none
      rw [ih q]; rfl
theorem has_nat {x k : Nat} (hx : x < 2 ^ 31) (hk : k < 31) : f_Model_has (nI x) (nI k) = if (decide (x / 2 ^ k % 2 = 1)) then 1 else 0 := by
  unfold f_Model_has
  have e1 : nI k &&& (31 : Int32) = nI k := by
    rw [pk_andN (by omega) (m := 31) 5 (by decide), Nat.mod_eq_of_lt (by omega)]
  have e2 : ((nI k).toBitVec.smod 32).toNat = k := by
    have : ∀ j, j < 32 → ((nI j).toBitVec.smod 32).toNat = j := by decide +kernel
    exact this k (by omega)
  rw [e1, pk_shrN hx _ k e2, pk_andN (Nat.lt_of_le_of_lt (Nat.div_le_self _ _) (by omega)) (m := 1) 1 (by decide)]
  rcases Nat.mod_two_eq_zero_or_one (x / 2 ^ k) with z | z
  · rw [show 2 ^ 1 = 2 from rfl, z]; decide
  · rw [show 2 ^ 1 = 2 from rfl, z]; decide
abbrev six : Nat → Nat := fun _ => 6
abbrev three : Nat → Nat := fun _ => 3
theorem pw6 : ∀ u, pwz six u = 6 ^ u := by
  intro u
  induction u with
  | zero => rfl
  | succ u ih => rw [pwz, ih, Nat.pow_succ]
theorem pw3 : ∀ u, pwz three u = 3 ^ u := by
  intro u
  induction u with
  | zero => rfl
  | succ u ih => rw [pwz, ih, Nat.pow_succ]
def wdM (x m u : Nat) : Nat := if x / 2 ^ u % 2 = 1 then (if m / 6 ^ u % 6 < 3 then 2 else 1) else 0
def wdC (wo : Int32) (kin : Nat → Int32) (x m u : Nat) : Nat := if x / 2 ^ u % 2 = 1 then (if uMd wo kin u = 1 then 1 else if m / 6 ^ u % 6 < 3 then 2 else 1) else 0
theorem c6 : ∀ md, md ≤ 2 → ∀ pu pd own : Nat, 1 ≤ pu ∧ pu ≤ 3 → 1 ≤ pd ∧ pd ≤ 3 → own < uSz md pu pd → own < 7 := by
  intro md _ pu pd own h1 h2 h
  unfold uSz at h
  split at h <;> omega
theorem cs_L18 {W : Nat → Nat → Int32} {wi U x m s : Nat} {lost wo : Int32} {kin : Nat → Int32} {pu pd : Nat → Nat} (hU : U ≤ 4) (hx : x < 2 ^ 31) (hpu : ∀ j, j < U → 1 ≤ pu j ∧ pu j ≤ 3) (hpd : ∀ j, j < U → 1 ≤ pd j ∧ pd j ≤ 3)
    (hWu : ∀ j, j < U → W wi ((9 + (8 * j)) + 5) = nI (pu j)) (hWd : ∀ j, j < U → W wi ((9 + (8 * j)) + 6) = nI (pd j)) (hmd : ∀ j, j < U → uMd lost (fun v => W wi (9 + 8 * v)) j = uMd wo kin j)
    (hrel : ∀ u, u < U → relB (uMd wo kin u) (pu u) (pd u) (m / 6 ^ u % 6) (digz (zU wo kin pu pd) s u) = true) : ∀ (n k y6 t : Nat), U - k < n → k ≤ U → chC (ofZ wo kin pu pd U) (onZ wo kin pu pd U) k x s = some t → t < pwz (zU wo kin pu pd) U →
    (∃ nd, y6 = numz six nd k ∧ ∀ u, u < k → nd u < 6 ∧ relB (uMd wo kin u) (pu u) (pd u) (nd u) (digz (zU wo kin pu pd) t u) = true ∧ aU wo kin pu pd u (digz (zU wo kin pu pd) t u) = wdC wo kin x m u) → (∀ u, k ≤ u → u < U → digz (zU wo kin pu pd) t u = digz (zU wo kin pu pd) s u) →
    (f_Model_costFrom_L18 W wi U (nI x) lost n y6 (numz three (wdM x m) k) (6 ^ k) (3 ^ k) (m / 6 ^ k) k = .inr 100000000 ∧ chC (ofZ wo kin pu pd U) (onZ wo kin pu pd U) U x s = none) ∨
    (∃ nd t' a b c, f_Model_costFrom_L18 W wi U (nI x) lost n y6 (numz three (wdM x m) k) (6 ^ k) (3 ^ k) (m / 6 ^ k) k = .inl (numz six nd U, numz three (wdM x m) U, a, b, c, U) ∧ chC (ofZ wo kin pu pd U) (onZ wo kin pu pd U) U x s = some t' ∧ t' < pwz (zU wo kin pu pd) U ∧ ∀ u, u < U → nd u < 6 ∧ relB (uMd wo kin u) (pu u) (pd u) (nd u) (digz (zU wo kin pu pd) t' u) = true ∧ aU wo kin pu pd u (digz (zU wo kin pu pd) t' u) = wdC wo kin x m u) := by
  intro n
  induction n with
  | zero => intro k y6 t h; exact absurd h (Nat.not_lt_zero _)
  | succ n ih =>
    intro k y6 t hn hk hch ht hnd hge
    obtain ⟨nd, e6, hnd⟩ := hnd
    rw [f_Model_costFrom_L18]
    by_cases c : nI k < nI U
    · rw [if_pos c]
      have hlt := nI_ltX c (by omega) (by omega)
      have hr := hrel k hlt
      rw [← hge k (Nat.le_refl _) hlt] at hr
      have hdz : digz (zU wo kin pu pd) t k < zU wo kin pu pd k := digz_lt zU_pos
      have hsim := sim_b uMd_lt (hpu k hlt) (hpd k hlt) (Nat.mod_lt _ (by decide)) (c6 _ uMd_lt _ _ _ (hpu k hlt) (hpd k hlt) hdz) hr
      have hg := goes_eq (f := W wi) (u := k) (wa := m / 6 ^ k % 6) (onb := f_Model_has (nI x) (nI k)) (lost := lost) (b := decide (x / 2 ^ k % 2 = 1)) (hWu k hlt) (hWd k hlt) (hpu k hlt) (hpd k hlt) (by omega) (has_nat hx (by omega))
      rw [hmd k hlt] at hg
      have hstep : chC (ofZ wo kin pu pd U) (onZ wo kin pu pd U) (k + 1) x s = (if x / 2 ^ k % 2 = 1 then onZ wo kin pu pd U k t else ofZ wo kin pu pd U k t) := by
        show (chC (ofZ wo kin pu pd U) (onZ wo kin pu pd U) k x s).bind _ = _
        rw [hch]; rfl
      have key : ∀ (o : Option Nat) (g : Option Nat), okO (uMd wo kin k) (pu k) (pd k) g o = true → (∀ q, o = some q → q < zU wo kin pu pd k ∧ uAct (uMd wo kin k) (pu k) (pd k) q = wdC wo kin x m k) → f_Model_goes (W wi) k (m / 6 ^ k % 6) (f_Model_has (nI x) (nI k)) lost = encO g → (if x / 2 ^ k % 2 = 1 then onZ wo kin pu pd U k t else ofZ wo kin pu pd U k t) = o.map (fun q => numz (zU wo kin pu pd) (va_up (digz (zU wo kin pu pd) t) k q) U) → (if f_Model_has (nI x) (nI k) = (0 : Int32) then 0 else (if nI (m / 6 ^ k % 6) < (3 : Int32) then 2 * 3 ^ k else 3 ^ k)) = wdM x m k * 3 ^ k →
          ((if f_Model_goes (W wi) k (m / 6 ^ k % 6) (f_Model_has (nI x) (nI k)) lost = (-1000000 : Int32) then .inr (100000000 : Int32) else f_Model_costFrom_L18 W wi U (nI x) lost n (y6 + (6 ^ k * ((f_Model_goes (W wi) k (m / 6 ^ k % 6) (f_Model_has (nI x) (nI k)) lost).toNatClampNeg))) (numz three (wdM x m) k + (if (f_Model_has (nI x) (nI k)) = (0 : Int32) then 0 else (if (nI (m / 6 ^ k % 6)) < (3 : Int32) then 2 * 3 ^ k else 3 ^ k))) (6 ^ k * 6) (3 ^ k * 3) (m / 6 ^ k / 6) (k + 1)) = .inr 100000000 ∧ chC (ofZ wo kin pu pd U) (onZ wo kin pu pd U) U x s = none) ∨
          (∃ nd t' a b c, (if f_Model_goes (W wi) k (m / 6 ^ k % 6) (f_Model_has (nI x) (nI k)) lost = (-1000000 : Int32) then .inr (100000000 : Int32) else f_Model_costFrom_L18 W wi U (nI x) lost n (y6 + (6 ^ k * ((f_Model_goes (W wi) k (m / 6 ^ k % 6) (f_Model_has (nI x) (nI k)) lost).toNatClampNeg))) (numz three (wdM x m) k + (if (f_Model_has (nI x) (nI k)) = (0 : Int32) then 0 else (if (nI (m / 6 ^ k % 6)) < (3 : Int32) then 2 * 3 ^ k else 3 ^ k))) (6 ^ k * 6) (3 ^ k * 3) (m / 6 ^ k / 6) (k + 1)) = .inl (numz six nd U, numz three (wdM x m) U, a, b, c, U) ∧ chC (ofZ wo kin pu pd U) (onZ wo kin pu pd U) U x s = some t' ∧ t' < pwz (zU wo kin pu pd) U ∧ ∀ u, u < U → nd u < 6 ∧ relB (uMd wo kin u) (pu u) (pd u) (nd u) (digz (zU wo kin pu pd) t' u) = true ∧ aU wo kin pu pd u (digz (zU wo kin pu pd) t' u) = wdC wo kin x m u) := by
        intro o g hok hq hgo hcl hw
        rw [hgo, hw]
        cases g with
        | none =>
          cases o with
          | some q => cases hok
          | none =>
            rw [if_pos (show encO none = (-1000000 : Int32) from rfl)]
            refine Or.inl ⟨rfl, chC_none (k := k + 1) ?_ U hlt⟩
            rw [hstep, hcl]; rfl
        | some g =>
          cases o with
          | none => cases hok
          | some q =>
            obtain ⟨hq1, hq2⟩ := hq q rfl
            have hg6 : g < 6 := by
              have hz := goes_nat (f := W wi) (u := k) (wa := m / 6 ^ k % 6) (on := f_Model_has (nI x) (nI k)) (lost := lost) (by omega)
              rw [hgo] at hz
              have hrr : relB (uMd wo kin k) (pu k) (pd k) g q = true := hok
              unfold relB at hrr
              by_cases z0 : uMd wo kin k = 0
              · rw [if_pos z0] at hrr; simp at hrr; omega
              · rw [if_neg z0] at hrr
                by_cases z1 : uMd wo kin k = 1
                · rw [if_pos z1] at hrr; simp at hrr; omega
                · rw [if_neg z1] at hrr; simp at hrr; omega
            have hne : ¬ encO (some g) = (-1000000 : Int32) := fun z => by
              have : ∀ j, j < 6 → ¬ nI j = (-1000000 : Int32) := by decide +kernel
              exact this g hg6 z
            rw [if_neg hne]
            have e7 : (encO (some g)).toNatClampNeg = g := nI_clamp (show g < 2 ^ 31 by omega)
            rw [e7, ← Nat.pow_succ, ← Nat.pow_succ, Nat.div_div_eq_div_mul, ← Nat.pow_succ]
            have e8 : numz three (wdM x m) k + wdM x m k * 3 ^ k = numz three (wdM x m) (k + 1) := by
              show _ = numz three (wdM x m) k + wdM x m k * pwz three k
              rw [pw3]
            rw [e8]
            have hdig : ∀ v, v < U → digz (zU wo kin pu pd) (numz (zU wo kin pu pd) (va_up (digz (zU wo kin pu pd) t) k q) U) v = va_up (digz (zU wo kin pu pd) t) k q v := digz_num (fun v hv => by
              by_cases z : v = k
              · subst z; rw [vu_self]; exact hq1
              · rw [vu_ne z]; exact digz_lt zU_pos)
            refine ih (k + 1) _ (numz (zU wo kin pu pd) (va_up (digz (zU wo kin pu pd) t) k q) U) (by omega) hlt (by rw [hstep, hcl]; rfl) (mv_lt hlt (fun v _ => zU_pos) hq1) ⟨va_up nd k g, ?_, fun v hv => ?_⟩ (fun v hv1 hv2 => ?_)
            · show _ = numz six (va_up nd k g) k + va_up nd k g k * pwz six k
              rw [vu_self, pw6, numz_congr (d' := nd) (fun v hv => vu_ne (by omega)), e6, Nat.mul_comm]
            · by_cases z : v = k
              · subst z
                rw [vu_self, hdig v hlt, vu_self]
                exact ⟨hg6, hok, hq2⟩
              · rw [vu_ne z, hdig v (by omega), vu_ne z]
                exact hnd v (by omega)
            · rw [hdig v hv2, vu_ne (by omega)]
              exact hge v (by omega) hv2
      have hmd3 : (nI (m / 6 ^ k % 6) < (3 : Int32)) ↔ m / 6 ^ k % 6 < 3 := nI_ltI (b := 3) (by omega) (by omega)
      by_cases hbit : x / 2 ^ k % 2 = 1
      · refine key (uOn (uMd wo kin k) (pu k) (pd k) (digz (zU wo kin pu pd) t k)) (mGo (uMd wo kin k) (pu k) (pd k) (m / 6 ^ k % 6) true) hsim.2.1 (fun q hq => ⟨uOn_lt uMd_lt (show digz (zU wo kin pu pd) t k < zU wo kin pu pd k from hdz) hq, ?_⟩) (by rw [hg, decide_eq_true hbit]) (by rw [if_pos hbit]; rfl) ?_
        · have := hsim.2.2.2
          rw [hq] at this
          unfold wdC
          rw [if_pos hbit]
          exact eq_of_beq this
        · rw [has_nat hx (by omega), decide_eq_true hbit]
          unfold wdM
          rw [if_pos hbit, if_pos rfl, if_neg (by decide)]
          by_cases z : m / 6 ^ k % 6 < 3
          · rw [if_pos (hmd3.mpr z), if_pos z]
          · rw [if_neg (fun w => z (hmd3.mp w)), if_neg z, Nat.one_mul]
      · refine key (uOff (uMd wo kin k) (pu k) (pd k) (digz (zU wo kin pu pd) t k)) (mGo (uMd wo kin k) (pu k) (pd k) (m / 6 ^ k % 6) false) hsim.1 (fun q hq => ⟨uOff_lt uMd_lt (hpd k hlt).1 (show digz (zU wo kin pu pd) t k < zU wo kin pu pd k from hdz) hq, ?_⟩) (by rw [hg, decide_eq_false hbit]) (by rw [if_neg hbit]; rfl) ?_
        · have := hsim.2.2.1
          rw [hq] at this
          unfold wdC
          rw [if_neg hbit]
          exact eq_of_beq this
        · rw [has_nat hx (by omega), decide_eq_false hbit]
          unfold wdM
          rw [if_neg hbit, iteT (show (if false = true then (1 : Int32) else 0) = 0 by decide), Nat.zero_mul]
    · rw [if_neg c]
      have hgeU : U ≤ k := Nat.le_of_not_lt (fun q => c (nI_lt q (by omega)))
      obtain rfl : k = U := by omega
      exact Or.inr ⟨nd, t, _, _, _, by rw [e6], hch, ht, hnd⟩
