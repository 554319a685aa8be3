/-! Numbers of states by digits; what layStates lays -/
def pwz (z : Nat → Nat) : Nat → Nat
  | 0 => 1
  | u + 1 => pwz z u * z u
def numz (z : Nat → Nat) (d : Nat → Nat) : Nat → Nat
  | 0 => 0
  | u + 1 => numz z d u + d u * pwz z u
def digz (z : Nat → Nat) (s u : Nat) : Nat := s / pwz z u % z u
theorem pwz_pos {z : Nat → Nat} : ∀ {U : Nat}, (∀ u, u < U → 0 < z u) → 0 < pwz z U := by
  intro U
  induction U with
  | zero => intro _; exact Nat.zero_lt_one
  | succ U ih => intro h; exact Nat.mul_pos (ih (fun u hu => h u (by omega))) (h U (by omega))
theorem pwz_congr {z z' : Nat → Nat} : ∀ {U : Nat}, (∀ u, u < U → z u = z' u) → pwz z U = pwz z' U := by
  intro U
  induction U with
  | zero => intro _; rfl
  | succ U ih => intro h; rw [pwz, pwz, ih (fun u hu => h u (by omega)), h U (by omega)]
theorem numz_lt {z d : Nat → Nat} : ∀ {U : Nat}, (∀ u, u < U → d u < z u) → numz z d U < pwz z U := by
  intro U
  induction U with
  | zero => intro _; exact Nat.zero_lt_one
  | succ U ih =>
    intro h
    have h1 := ih (fun u hu => h u (by omega))
    have h2 : (d U + 1) * pwz z U ≤ z U * pwz z U := Nat.mul_le_mul_right _ (h U (by omega))
    rw [Nat.add_mul, Nat.one_mul] at h2
    show numz z d U + d U * pwz z U < pwz z U * z U
    rw [Nat.mul_comm (pwz z U) (z U)]
    omega
theorem numz_congr {z d d' : Nat → Nat} : ∀ {U : Nat}, (∀ u, u < U → d u = d' u) → numz z d U = numz z d' U := by
  intro U
  induction U with
  | zero => intro _; rfl
  | succ U ih => intro h; rw [numz, numz, ih (fun u hu => h u (by omega)), h U (by omega)]
theorem numz_dig {z : Nat → Nat} {s : Nat} : ∀ U, numz z (digz z s) U = s % pwz z U := by
  intro U
  induction U with
  | zero => show 0 = s % 1; rw [Nat.mod_one]
  | succ U ih =>
    show numz z (digz z s) U + (s / pwz z U % z U) * pwz z U = s % (pwz z U * z U)
    rw [ih, Nat.mod_mul, Nat.mul_comm (pwz z U)]
theorem pwz_split {z : Nat → Nat} {v : Nat} : ∀ {U : Nat}, v < U → ∃ t, pwz z U = pwz z v * z v * t := by
  intro U
  induction U with
  | zero => intro h; exact absurd h (Nat.not_lt_zero _)
  | succ U ih =>
    intro h
    rcases Nat.lt_or_ge v U with q | q
    · obtain ⟨t, ht⟩ := ih q
      exact ⟨t * z U, by rw [pwz, ht, Nat.mul_assoc]⟩
    · have : v = U := by omega
      subst this
      exact ⟨1, by rw [pwz, Nat.mul_one]⟩
theorem digz_add {z : Nat → Nat} {c s v U : Nat} (hv : v < U) (hz : ∀ u, u < U → 0 < z u) : digz z (s + c * pwz z U) v = digz z s v := by
  obtain ⟨t, ht⟩ := pwz_split (z := z) hv
  have hp : 0 < pwz z v := pwz_pos (fun u hu => hz u (by omega))
  unfold digz
  have e : c * pwz z U = (c * t * z v) * pwz z v := by
    rw [ht, Nat.mul_assoc c t (z v), Nat.mul_assoc c (t * z v), Nat.mul_comm (t * z v), Nat.mul_comm t (z v), ← Nat.mul_assoc (pwz z v)]
  rw [e, Nat.add_mul_div_right _ _ hp, Nat.add_mul_mod_self_right]
theorem digz_num {z d : Nat → Nat} : ∀ {U : Nat}, (∀ u, u < U → d u < z u) → ∀ v, v < U → digz z (numz z d U) v = d v := by
  intro U
  induction U with
  | zero => intro _ v h; exact absurd h (Nat.not_lt_zero _)
  | succ U ih =>
    intro h v hv
    have hz : ∀ u, u < U → 0 < z u := fun u hu => Nat.lt_of_le_of_lt (Nat.zero_le _) (h u (by omega))
    show digz z (numz z d U + d U * pwz z U) v = d v
    rcases Nat.lt_or_ge v U with q | q
    · rw [digz_add q hz]
      exact ih (fun u hu => h u (by omega)) v q
    · have e : v = U := by omega
      subst e
      unfold digz
      rw [Nat.add_mul_div_right _ _ (pwz_pos hz), Nat.div_eq_of_lt (numz_lt (fun u hu => h u (by omega))), Nat.zero_add, Nat.mod_eq_of_lt (h v hv)]
theorem numz_upd {z d : Nat → Nat} {u n : Nat} : ∀ {U : Nat}, u < U → numz z (va_up d u n) U + d u * pwz z u = numz z d U + n * pwz z u := by
  intro U
  induction U with
  | zero => intro h; exact absurd h (Nat.not_lt_zero _)
  | succ U ih =>
    intro h
    show numz z (va_up d u n) U + va_up d u n U * pwz z U + d u * pwz z u = numz z d U + d U * pwz z U + n * pwz z u
    rcases Nat.lt_or_ge u U with q | q
    · have e : va_up d u n U = d U := by unfold va_up; rw [if_neg (by omega)]
      rw [e]
      have := ih q
      omega
    · have e : u = U := by omega
      subst e
      have e2 : va_up d u n u = n := by simp [va_up]
      have e3 : numz z (va_up d u n) u = numz z d u := numz_congr (fun v hv => by unfold va_up; rw [if_neg (by omega)])
      rw [e2, e3]
      omega
theorem digz_lt {z : Nat → Nat} {s u : Nat} (h : 0 < z u) : digz z s u < z u := Nat.mod_lt _ h
def uMd (wo : Int32) (kin : Nat → Int32) (u : Nat) : Nat := if nI u = wo then 0 else if kin u = 5 then 1 else 2
def uSz (md pu pd : Nat) : Nat := if md = 2 then pd + max pu 2 else 1
def uOff (md pu pd own : Nat) : Option Nat := if md = 0 then some 0 else if md = 1 then none else if own < pd then some (own - 1) else if own - pd + 1 < pu then none else some (pd - 1)
def uOn (md pu pd own : Nat) : Option Nat := if md = 0 then none else if md = 1 then some 0 else if own < pd then (if own = 0 then some pd else none) else some (if own + 1 < pd + max pu 2 then own + 1 else own)
def uAct (md _pu pd own : Nat) : Nat := if md = 0 then 0 else if md = 1 then 1 else if own < pd then 0 else if own = pd then 2 else 1
def uEnc (w own : Nat) (o : Option Nat) : Int32 := match o with
  | none => -1000000
  | some n => nI (n * w) - nI (own * w)
theorem vu_ne {α : Type} {f : Nat → α} {k j : Nat} {v : α} (h : j ≠ k) : va_up f k v j = f j := by unfold va_up; rw [if_neg h]
theorem iteC {α : Type} {p q : Prop} [Decidable p] [Decidable q] (h : p ↔ q) {a b : α} : (if p then a else b) = if q then a else b := by
  by_cases c : p
  · rw [if_pos c, if_pos (h.mp c)]
  · rw [if_neg c, if_neg (fun z => c (h.mpr z))]
theorem iteT {α : Type} {p : Prop} [Decidable p] {a b : α} (h : p) : (if p then a else b) = a := if_pos h
theorem iteF {α : Type} {p : Prop} [Decidable p] {a b : α} (h : ¬ p) : (if p then a else b) = b := if_neg h
theorem lc_eq {sc : Nat → Nat} {ss sk ow ac : Nat} : ∀ k, k ≤ ss → ∀ j, f_Search_layCombos_L2 ss sk ow ac sc k j = if ow * ss ≤ j ∧ j < ow * ss + k then sc (j - ow * ss) + ac * sk else sc j := by
  intro k
  induction k with
  | zero => intro _ j; rw [if_neg (by omega)]; rfl
  | succ k ih =>
    intro hk j
    show va_up (f_Search_layCombos_L2 ss sk ow ac sc k) (ow * ss + k) (f_Search_layCombos_L2 ss sk ow ac sc k k + ac * sk) j = _
    have hkk : f_Search_layCombos_L2 ss sk ow ac sc k k = sc k := by
      rw [ih (by omega) k, if_neg]
      intro h
      rcases Nat.eq_zero_or_pos ow with z | z
      · subst z; omega
      · have : 1 * ss ≤ ow * ss := Nat.mul_le_mul_right _ z
        omega
    rw [hkk]
    by_cases hj : j = ow * ss + k
    · subst hj
      rw [vu_self, if_pos ⟨by omega, by omega⟩, show ow * ss + k - ow * ss = k by omega]
    · rw [vu_ne hj, ih (by omega) j]
      by_cases q : ow * ss ≤ j ∧ j < ow * ss + k
      · rw [if_pos q, if_pos ⟨q.1, by omega⟩]
      · rw [if_neg q, if_neg (by omega)]
theorem lc_row {sc : Nat → Nat} {ss sk ow ac own s : Nat} (hs : s < ss) : f_Search_layCombos sc ss sk ow ac (own * ss + s) = if own = ow then sc s + ac * sk else sc (own * ss + s) := by
  show f_Search_layCombos_L2 ss sk ow ac sc ss (own * ss + s) = _
  rw [lc_eq ss (Nat.le_refl _)]
  by_cases q : own = ow
  · subst q
    rw [if_pos ⟨by omega, by omega⟩, if_pos rfl, show own * ss + s - own * ss = s by omega]
  · rw [if_neg q, if_neg]
    intro h
    rcases Nat.lt_or_ge own ow with z | z
    · have : (own + 1) * ss ≤ ow * ss := Nat.mul_le_mul_right _ z
      rw [Nat.add_mul, Nat.one_mul] at this
      omega
    · have : (ow + 1) * ss ≤ own * ss := Nat.mul_le_mul_right _ (show ow + 1 ≤ own by omega)
      rw [Nat.add_mul, Nat.one_mul] at this
      omega
theorem lc_0 {sc : Nat → Nat} {ss sk ow ac s : Nat} (hs : s < ss) (ho : 0 < ow) : f_Search_layCombos sc ss sk ow ac s = sc s := by
  have := lc_row (sc := sc) (sk := sk) (ow := ow) (ac := ac) (own := 0) hs
  rw [if_neg (by omega), Nat.zero_mul, Nat.zero_add] at this
  exact this
theorem down_0 {y : Nat} (hy : y < 2 ^ 31) (c : nI y - (1 : Int32) < 0) : y = 0 := by
  rcases Nat.eq_zero_or_pos y with z | z
  · exact z
  · exact absurd c (by rw [show nI y - (1 : Int32) = nI (y - 1) from pk_sub (b := 1) (by omega)]; exact nI_pos (by omega))
theorem lu23 {ss sk u pu pd most : Nat} (hpd : 1 ≤ pd) : ∀ (n y : Nat) (sc : Nat → Nat) (tof ton : Nat → Nat → Int32), y < n → y < 2 ^ 31 →
    (∀ own s, s < ss → (f_Search_layUnitStates_L23 ss sk u pu pd most n y sc tof ton).2.1 (own * ss + s) = if pd ≤ own ∧ own < pd + y then sc s + (if own = pd then 2 else 1) * sk else sc (own * ss + s)) ∧
    (∀ v own, (f_Search_layUnitStates_L23 ss sk u pu pd most n y sc tof ton).2.2.1 v own = if v = u ∧ pd ≤ own ∧ own < pd + y then (if nI (own - pd + 1) < nI pu then (-1000000 : Int32) else (nI (pd - 1) - nI own) * nI ss) else tof v own) ∧
    (∀ v own, (f_Search_layUnitStates_L23 ss sk u pu pd most n y sc tof ton).2.2.2 v own = if v = u ∧ pd ≤ own ∧ own < pd + y then (if nI (own - pd) < nI (most - 1) then (1 : Int32) else 0) * nI ss else ton v own) := by
  intro n
  induction n with
  | zero => intro y _ _ _ h; exact absurd h (Nat.not_lt_zero _)
  | succ n ih =>
    intro y sc tof ton hy hb
    by_cases c : nI y - (1 : Int32) < 0
    · have hy0 := down_0 hb c
      have e : f_Search_layUnitStates_L23 ss sk u pu pd most (n + 1) y sc tof ton = (y, sc, tof, ton) := by rw [f_Search_layUnitStates_L23, if_pos c]
      rw [e]
      exact ⟨fun own s _ => (iteF (by omega)).symm, fun v own => (iteF (by omega)).symm, fun v own => (iteF (by omega)).symm⟩
    · have hp := down_ge c
      have e : f_Search_layUnitStates_L23 ss sk u pu pd most (n + 1) y sc tof ton = f_Search_layUnitStates_L23 ss sk u pu pd most n (y - 1) (f_Search_layCombos sc ss sk (pd + (y - 1)) (if (nI (y - 1)) = (0 : Int32) then 2 else 1)) (va_up tof u (upd (tof u) (pd + (y - 1)) (if (nI ((y - 1) + 1)) < (nI pu) then (-1000000 : Int32) else ((nI (pd - 1)) - (nI (pd + (y - 1)))) * (nI ss)))) (va_up ton u (upd (ton u) (pd + (y - 1)) ((if (nI (y - 1)) < (nI (most - 1)) then (1 : Int32) else (0 : Int32)) * (nI ss)))) := by rw [f_Search_layUnitStates_L23, if_neg c]
      obtain ⟨h1, h2, h3⟩ := ih (y - 1) (f_Search_layCombos sc ss sk (pd + (y - 1)) (if (nI (y - 1)) = (0 : Int32) then 2 else 1)) (va_up tof u (upd (tof u) (pd + (y - 1)) (if (nI ((y - 1) + 1)) < (nI pu) then (-1000000 : Int32) else ((nI (pd - 1)) - (nI (pd + (y - 1)))) * (nI ss)))) (va_up ton u (upd (ton u) (pd + (y - 1)) ((if (nI (y - 1)) < (nI (most - 1)) then (1 : Int32) else (0 : Int32)) * (nI ss)))) (by omega) (by omega)
      rw [e]
      refine ⟨fun own s hs => ?_, fun v own => ?_, fun v own => ?_⟩
      · rw [h1 own s hs, lc_0 hs (by omega), lc_row hs]
        by_cases q : own = pd + (y - 1)
        · subst q
          rw [iteF (show ¬ (pd ≤ pd + (y - 1) ∧ pd + (y - 1) < pd + (y - 1)) by omega), iteT (show pd + (y - 1) = pd + (y - 1) from rfl), iteT (show pd ≤ pd + (y - 1) ∧ pd + (y - 1) < pd + y by omega)]
          by_cases z : y - 1 = 0
          · rw [iteT (show nI (y - 1) = (0 : Int32) by rw [z]; rfl), iteT (show pd + (y - 1) = pd by omega)]
          · rw [iteF (show ¬ nI (y - 1) = (0 : Int32) from nI_ne0 (by omega) (by omega)), iteF (show ¬ pd + (y - 1) = pd by omega)]
        · rw [iteF q]
          exact iteC (by omega)
      · rw [h2 v own]
        by_cases q : v = u
        · subst q
          rw [vu_self]
          by_cases r : own = pd + (y - 1)
          · subst r
            rw [iteF (show ¬ (v = v ∧ pd ≤ pd + (y - 1) ∧ pd + (y - 1) < pd + (y - 1)) by omega), iteT (show v = v ∧ pd ≤ pd + (y - 1) ∧ pd + (y - 1) < pd + y by omega), pk_us, show pd + (y - 1) - pd = y - 1 by omega]
          · rw [pk_un r]
            exact iteC (by omega)
        · rw [vu_ne q]
          exact iteC ⟨fun z => absurd z.1 q, fun z => absurd z.1 q⟩
      · rw [h3 v own]
        by_cases q : v = u
        · subst q
          rw [vu_self]
          by_cases r : own = pd + (y - 1)
          · subst r
            rw [iteF (show ¬ (v = v ∧ pd ≤ pd + (y - 1) ∧ pd + (y - 1) < pd + (y - 1)) by omega), iteT (show v = v ∧ pd ≤ pd + (y - 1) ∧ pd + (y - 1) < pd + y by omega), pk_us, show pd + (y - 1) - pd = y - 1 by omega]
          · rw [pk_un r]
            exact iteC (by omega)
        · rw [vu_ne q]
          exact iteC ⟨fun z => absurd z.1 q, fun z => absurd z.1 q⟩
theorem lu122 {ss sk u pd : Nat} : ∀ (n y : Nat) (sc : Nat → Nat) (tof ton : Nat → Nat → Int32), y < n → y < 2 ^ 31 →
    (∀ own s, s < ss → (f_Search_layUnitStates_L122 ss sk u pd n y sc tof ton).2.1 (own * ss + s) = if own < y then sc s else sc (own * ss + s)) ∧
    (∀ v own, (f_Search_layUnitStates_L122 ss sk u pd n y sc tof ton).2.2.1 v own = if v = u ∧ own < y then (if (0 : Int32) < nI own then -(nI ss) else (0 : Int32)) else tof v own) ∧
    (∀ v own, (f_Search_layUnitStates_L122 ss sk u pd n y sc tof ton).2.2.2 v own = if v = u ∧ own < y then (if (0 : Int32) < nI own then (-1000000 : Int32) else nI (pd * ss)) else ton v own) := by
  intro n
  induction n with
  | zero => intro y _ _ _ h; exact absurd h (Nat.not_lt_zero _)
  | succ n ih =>
    intro y sc tof ton hy hb
    by_cases c : nI y - (1 : Int32) < 0
    · have hy0 := down_0 hb c
      have e : f_Search_layUnitStates_L122 ss sk u pd (n + 1) y sc tof ton = (y, sc, tof, ton) := by rw [f_Search_layUnitStates_L122, if_pos c]
      rw [e]
      exact ⟨fun own s _ => (iteF (by omega)).symm, fun v own => (iteF (by omega)).symm, fun v own => (iteF (by omega)).symm⟩
    · have hp := down_ge c
      have e : f_Search_layUnitStates_L122 ss sk u pd (n + 1) y sc tof ton = f_Search_layUnitStates_L122 ss sk u pd n (y - 1) (f_Search_layCombos sc ss sk (y - 1) 0) (va_up tof u (upd (tof u) (y - 1) (if (0 : Int32) < (nI (y - 1)) then -(nI ss) else (0 : Int32)))) (va_up ton u (upd (ton u) (y - 1) (if (0 : Int32) < (nI (y - 1)) then (-1000000 : Int32) else nI (pd * ss)))) := by rw [f_Search_layUnitStates_L122, if_neg c]
      obtain ⟨h1, h2, h3⟩ := ih (y - 1) (f_Search_layCombos sc ss sk (y - 1) 0) (va_up tof u (upd (tof u) (y - 1) (if (0 : Int32) < (nI (y - 1)) then -(nI ss) else (0 : Int32)))) (va_up ton u (upd (ton u) (y - 1) (if (0 : Int32) < (nI (y - 1)) then (-1000000 : Int32) else nI (pd * ss)))) (by omega) (by omega)
      rw [e]
      refine ⟨fun own s hs => ?_, fun v own => ?_, fun v own => ?_⟩
      · have h0 : f_Search_layCombos sc ss sk (y - 1) 0 s = sc s := by
          have := lc_row (sc := sc) (sk := sk) (ow := y - 1) (ac := 0) (own := 0) hs
          rw [Nat.zero_mul, Nat.zero_add, Nat.zero_mul, Nat.add_zero] at this
          rw [this]; split <;> rfl
        rw [h1 own s hs, h0, lc_row hs, Nat.zero_mul, Nat.add_zero]
        by_cases q : own = y - 1
        · rw [iteF (show ¬ own < y - 1 by omega), iteT q, iteT (show own < y by omega)]
        · rw [iteF q]
          exact iteC (by omega)
      · rw [h2 v own]
        by_cases q : v = u
        · subst q
          rw [vu_self]
          by_cases r : own = y - 1
          · subst r
            rw [iteF (show ¬ (v = v ∧ y - 1 < y - 1) by omega), iteT (show v = v ∧ y - 1 < y by omega), pk_us]
          · rw [pk_un r]
            exact iteC (by omega)
        · rw [vu_ne q]
          exact iteC ⟨fun z => absurd z.1 q, fun z => absurd z.1 q⟩
      · rw [h3 v own]
        by_cases q : v = u
        · subst q
          rw [vu_self]
          by_cases r : own = y - 1
          · subst r
            rw [iteF (show ¬ (v = v ∧ y - 1 < y - 1) by omega), iteT (show v = v ∧ y - 1 < y by omega), pk_us]
          · rw [pk_un r]
            exact iteC (by omega)
        · rw [vu_ne q]
          exact iteC ⟨fun z => absurd z.1 q, fun z => absurd z.1 q⟩
