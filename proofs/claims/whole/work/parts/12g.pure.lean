def encM (v : Nat) : Int32 := if v < FARn then nI (v / 2 ^ 24) else 100000000
def bdv (v : Nat) : Prop := v < 17592186044416 ∨ v = FARn
theorem encM_far : encM FARn = 100000000 := by unfold encM; rw [if_neg (Nat.lt_irrefl _)]
theorem bdv_q {v : Nat} (h : v < 17592186044416) : v / 2 ^ 24 < 1048576 := Nat.div_lt_of_lt_mul h
theorem encM_lt {a b : Nat} (ha : bdv a) (hb : bdv b) : encM a < encM b ↔ (a < FARn ∧ (b = FARn ∨ a / 2 ^ 24 < b / 2 ^ 24)) := by
  have hf : (100000000 : Int32) = nI 100000000 := rfl
  have hFF : 17592186044416 < FARn := Nat.le_of_ble_eq_true rfl
  unfold encM
  rcases ha with ha | ha
  · have ha2 : a < FARn := Nat.lt_trans ha hFF
    have qa := bdv_q ha
    rw [if_pos ha2]
    rcases hb with hb | hb
    · have hb2 : b < FARn := Nat.lt_trans hb hFF
      have qb := bdv_q hb
      rw [if_pos hb2, nI_ltI (by omega) (by omega)]
      exact ⟨fun h => ⟨ha2, Or.inr h⟩, fun h => h.2.resolve_left (Nat.ne_of_lt hb2)⟩
    · rw [hb, if_neg (Nat.lt_irrefl _), hf, nI_ltI (by omega) (by omega)]
      exact ⟨fun _ => ⟨ha2, Or.inl rfl⟩, fun _ => by omega⟩
  · rw [ha, if_neg (Nat.lt_irrefl _)]
    refine ⟨fun h => ?_, fun h => absurd h.1 (Nat.lt_irrefl _)⟩
    exfalso
    rcases hb with hb | hb
    · have hb2 : b < FARn := Nat.lt_trans hb hFF
      have qb := bdv_q hb
      rw [if_pos hb2, hf, nI_ltI (by omega) (by omega)] at h
      omega
    · rw [hb, if_neg (Nat.lt_irrefl _), hf] at h
      exact absurd h (nI_nlt (Nat.le_refl _) (by omega))
theorem encM_min {a b : Nat} (ha : bdv a) (hb : bdv b) : (if encM a < encM b then encM a else encM b) = encM (min b a) := by
  have hFF : 17592186044416 < FARn := Nat.le_of_ble_eq_true rfl
  by_cases c : encM a < encM b
  · rw [if_pos c]
    have h := (encM_lt ha hb).mp c
    have hab : a ≤ b := by
      rcases h.2 with z | z
      · omega
      · rcases Nat.lt_or_ge b a with q | q
        · exact absurd (Nat.div_le_div_right (c := 2 ^ 24) (Nat.le_of_lt q)) (by omega)
        · exact q
    rw [Nat.min_eq_right hab]
  · rw [if_neg c]
    rcases Nat.le_total b a with q | q
    · rw [Nat.min_eq_left q]
    · rw [Nat.min_eq_right q]
      have h : ¬ (a < FARn ∧ (b = FARn ∨ a / 2 ^ 24 < b / 2 ^ 24)) := fun z => c ((encM_lt ha hb).mpr z)
      unfold encM
      by_cases af : a < FARn
      · have hbn : ¬ b = FARn := fun z => h ⟨af, Or.inl z⟩
        have hq : ¬ a / 2 ^ 24 < b / 2 ^ 24 := fun z => h ⟨af, Or.inr z⟩
        have hb2 : b < FARn := by rcases hb with z | z; · exact Nat.lt_trans z hFF
                                  · exact absurd z hbn
        rw [if_pos hb2, if_pos af, Nat.le_antisymm (Nat.le_of_not_lt hq) (Nat.div_le_div_right q)]
      · rw [if_neg af, if_neg (by omega)]
theorem bdv_min {a b : Nat} (ha : bdv a) (hb : bdv b) : bdv (min a b) := by
  rcases Nat.le_total a b with q | q
  · rw [Nat.min_eq_left q]; exact ha
  · rw [Nat.min_eq_right q]; exact hb
theorem m76 {W : Nat → Nat → Int32} {costs lst : Nat → Int32} {wi U : Nat} {x2 : Int32} {N n5 n6 : Nat} {F : Nat → Nat} (hN : N < 2 ^ 31) (hc : (0 : Int32) < nI n5 ∨ nI n6 = (0 : Int32)) (hF : ∀ x, x < N → f_Model_costFrom W costs lst n5 n6 (nI x) x2 wi U = encM (F x) ∧ bdv (F x)) : ∀ (n y v : Nat), N - y < n → y ≤ N → bdv v → (f_Model_finds_L76 W costs lst wi U x2 N n5 n6 n (encM v) y).1 = encM (min v (mnF (fun i => F (y + i)) (N - y))) := by
  intro n
  induction n with
  | zero => intro y v h; exact absurd h (Nat.not_lt_zero _)
  | succ n ih =>
    intro y v hn hy hv
    have hvF : v ≤ FARn := by rcases hv with z | z; · exact Nat.le_of_lt (Nat.lt_trans z (Nat.le_of_ble_eq_true rfl))
                              · exact Nat.le_of_eq z
    rw [f_Model_finds_L76]
    by_cases c : nI y < nI N
    · have hlt := nI_ltX c (by omega) hN
      have hf := hF y hlt
      have step : (f_Model_finds_L76 W costs lst wi U x2 N n5 n6 n (if f_Model_costFrom W costs lst n5 n6 (nI y) x2 wi U < encM v then f_Model_costFrom W costs lst n5 n6 (nI y) x2 wi U else encM v) (y + 1)).1 = encM (min v (mnF (fun i => F (y + i)) (N - y))) := by
        rw [hf.1, encM_min hf.2 hv, ih (y + 1) _ (by omega) hlt (bdv_min hv hf.2), show N - y = 1 + (N - (y + 1)) by omega, mnF_app]
        have e1 : mnF (fun i => F (y + i)) 1 = min FARn (F y) := rfl
        have e2 : (fun i => F (y + 1 + i)) = (fun i => F (y + (1 + i))) := by funext i; rw [Nat.add_assoc]
        rw [e1, e2]
        congr 1
        omega
      rw [if_pos c]
      by_cases c2 : (0 : Int32) < nI n5
      · rw [if_pos c2]; exact step
      · rw [if_neg c2, if_pos (hc.resolve_left c2)]; exact step
    · rw [if_neg c]
      have hge : N ≤ y := Nat.le_of_not_lt (fun q => c (nI_lt q hN))
      rw [show N - y = 0 by omega]
      show encM v = encM (min v FARn)
      rw [Nat.min_eq_left hvF]
theorem L76_congr {W : Nat → Nat → Int32} {costs lst lst' : Nat → Int32} {wi U : Nat} {x2 : Int32} {n4 n5 n6 : Nat} (h : ∀ j, 1296 * (n5 + 1) ≤ j → lst j = lst' j) : ∀ (n : Nat) (y7 : Int32) (y8 : Nat), f_Model_finds_L76 W costs lst wi U x2 n4 n5 n6 n y7 y8 = f_Model_finds_L76 W costs lst' wi U x2 n4 n5 n6 n y7 y8 := by
  intro n
  induction n with
  | zero => intro y7 y8; rfl
  | succ n ih =>
    intro y7 y8
    rw [f_Model_finds_L76, f_Model_finds_L76, cf_congr h]
    simp only [ih]
theorem m63 {W : Nat → Nat → Int32} {costs lst : Nat → Int32} {wi U : Nat} {x2 : Int32} {n4 n5 : Nat} : ∀ k, k ≤ 1296 → (∀ j, j < 1296 * n5 ∨ 1296 * n5 + k ≤ j → f_Model_finds_L63 W costs wi U x2 n4 n5 lst k j = lst j) ∧ ∀ s, s < k → f_Model_finds_L63 W costs wi U x2 n4 n5 lst k (1296 * n5 + s) = (f_Model_finds_L76 W costs lst wi U x2 n4 n5 s (2 ^ U + 1) 100000000 0).1 := by
  intro k
  induction k with
  | zero => intro _; exact ⟨fun j _ => rfl, fun s h => absurd h (Nat.not_lt_zero _)⟩
  | succ k ih =>
    intro hk
    have ih := ih (by omega)
    have e : f_Model_finds_L63 W costs wi U x2 n4 n5 lst (k + 1) = upd (f_Model_finds_L63 W costs wi U x2 n4 n5 lst k) (1296 * n5 + k) (f_Model_finds_L76 W costs (f_Model_finds_L63 W costs wi U x2 n4 n5 lst k) wi U x2 n4 n5 k (2 ^ U + 1) 100000000 0).1 := rfl
    refine ⟨fun j hj => ?_, fun s hs => ?_⟩
    · rw [e, pk_un (by omega)]
      exact ih.1 j (by omega)
    · rcases Nat.lt_or_ge s k with q | q
      · rw [e, pk_un (by omega)]
        exact ih.2 s q
      · have hs2 : s = k := by omega
        subst hs2
        rw [e, pk_us, L76_congr (fun j hj => ih.1 j (Or.inr (by omega)))]
theorem m55 {W : Nat → Nat → Int32} {costs : Nat → Int32} {wi U : Nat} {x2 : Int32} {n3 n4 : Nat} (h3 : n3 ≤ 1296) : ∀ (n y : Nat) (lst : Nat → Int32), y < n → y < 2 ^ 31 → (∀ j, 1296 * y ≤ j → (f_Model_finds_L55 W costs wi U x2 n3 n4 n y lst).2 j = lst j) ∧ ∀ hh s, hh < y → s < n3 → (f_Model_finds_L55 W costs wi U x2 n3 n4 n y lst).2 (1296 * hh + s) = (f_Model_finds_L76 W costs (f_Model_finds_L55 W costs wi U x2 n3 n4 n y lst).2 wi U x2 n4 hh s (2 ^ U + 1) 100000000 0).1 := by
  intro n
  induction n with
  | zero => intro y lst h; exact absurd h (Nat.not_lt_zero _)
  | succ n ih =>
    intro y lst hy hb
    rw [f_Model_finds_L55]
    by_cases c : nI y - (1 : Int32) < 0
    · rw [if_pos c]
      have hy0 := down_0 hb c
      exact ⟨fun j _ => rfl, fun hh s a => absurd a (by omega)⟩
    · rw [if_neg c]
      have hp := down_ge c
      have e := ih (y - 1) (f_Model_finds_L63 W costs wi U x2 n4 (y - 1) lst n3) (by omega) (by omega)
      have r := m63 (W := W) (costs := costs) (lst := lst) (wi := wi) (U := U) (x2 := x2) (n4 := n4) (n5 := y - 1) n3 h3
      refine ⟨fun j hj => (e.1 j (by omega)).trans (r.1 j (Or.inr (by omega))), fun hh s a b => ?_⟩
      rcases Nat.lt_or_ge hh (y - 1) with q | q
      · exact e.2 hh s q b
      · have hq : hh = y - 1 := by omega
        subst hq
        have v := e.1 (1296 * (y - 1) + s) (by omega)
        rw [v, r.2 s b]
        refine congrArg Prod.fst (L76_congr (fun j hj => ?_) _ _ _)
        rw [e.1 j (by omega), r.1 j (Or.inr (by omega))]
