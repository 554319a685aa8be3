def midB (n v : Nat) : Prop := v = FARn ∨ (v / 16777216 ≤ 196602 ∧ (v % 16777216) % 2 ^ (4 * (6 - n)) < 2 ^ (4 * (5 - n)))
theorem up_f {f t K : Nat} (h1 : f ∣ t) (h2 : f ∣ K) (h3 : t < K) : t + f ≤ K := by
  obtain ⟨a, rfl⟩ := h1
  obtain ⟨b, rfl⟩ := h2
  have hab : a < b := by
    rcases Nat.lt_or_ge a b with z | z
    · exact z
    · exact absurd h3 (Nat.not_lt.mpr (Nat.mul_le_mul_left f z))
  have := Nat.mul_le_mul_left f (show a + 1 ≤ b from hab)
  rw [Nat.mul_add, Nat.mul_one] at this
  exact this
theorem two24 {n : Nat} : 2 ^ (4 * (6 - n)) ∣ 16777216 := Nat.pow_dvd_pow 2 (show 4 * (6 - n) ≤ 24 by omega)
theorem mid_of {n t b : Nat} (hn : n ≤ 5) (ht : spB 0 n t) (hb : lowB (n + 1) b) : midB n (fad t b) := by
  rcases ht with rfl | ⟨t1, t2, t3⟩
  · exact Or.inl fad_far
  rcases hb with rfl | ⟨b1, b2⟩
  · exact Or.inl fad_far2
  obtain ⟨e1, e2, e3⟩ := e_facts (h := n) hn
  rw [show 6 - (n + 1) = 5 - n by omega] at b1 b2
  have hu := up_f t2 two24 (Nat.mod_lt t (by decide))
  have hlt : t % 16777216 + b % 16777216 < 16777216 := by omega
  have hq : (t + b) / 16777216 = t / 16777216 + b / 16777216 := by omega
  have hr : (t + b) % 16777216 = t % 16777216 + b % 16777216 := by omega
  have hqq : (t + b) / 16777216 ≤ 196602 := by
    rw [hq]
    have x1 : (n - 0) * 32767 + (5 - n) * 32767 = 5 * 32767 := by rw [← Nat.add_mul]; congr 1; omega
    omega
  rw [fad_add (Nat.le_of_lt (q_far hqq))]
  refine Or.inr ⟨hqq, ?_⟩
  rw [hr, Nat.add_mod, Nat.mod_eq_zero_of_dvd t2, Nat.zero_add, Nat.mod_mod]
  exact Nat.lt_of_le_of_lt (Nat.mod_le _ _) b2
theorem mid_add {n v w o : Nat} (hn : n ≤ 5) (hv : midB n v) (hf : v < FARn) (hw : w ≤ 32767) (ho : o < 16) : fad v (w * 16777216 + o * 2 ^ (4 * (5 - n))) < FARn ∧ fad v (w * 16777216 + o * 2 ^ (4 * (5 - n))) / 16777216 = v / 16777216 + w := by
  rcases hv with rfl | ⟨v1, v2⟩
  · exact absurd hf (Nat.lt_irrefl _)
  obtain ⟨e1, e2, e3⟩ := e_facts (h := n) hn
  have hoe : o * 2 ^ (4 * (5 - n)) ≤ 15 * 2 ^ (4 * (5 - n)) := Nat.mul_le_mul_right _ (by omega)
  have hd : 2 ^ (4 * (6 - n)) ∣ 2 ^ (4 * (6 - n)) * (v % 16777216 / 2 ^ (4 * (6 - n))) := Nat.dvd_mul_right _ _
  have hdm := Nat.div_add_mod (v % 16777216) (2 ^ (4 * (6 - n)))
  have hvl : v % 16777216 < 16777216 := Nat.mod_lt v (by decide)
  have hu := up_f hd two24 (by omega)
  generalize 2 ^ (4 * (6 - n)) * (v % 16777216 / 2 ^ (4 * (6 - n))) = A at hdm hu
  generalize v % 16777216 % 2 ^ (4 * (6 - n)) = B at hdm v2
  rw [e3] at hu
  generalize o * 2 ^ (4 * (5 - n)) = oe at hoe ⊢
  generalize 2 ^ (4 * (5 - n)) = e at *
  have hlt : v % 16777216 + oe < 16777216 := by omega
  have hq : (v + (w * 16777216 + oe)) / 16777216 = v / 16777216 + w := by omega
  have hfar : v + (w * 16777216 + oe) < FARn := by
    have x : (v + (w * 16777216 + oe)) / 16777216 ≤ 229369 := by omega
    have y : v + (w * 16777216 + oe) < 17592186044416 := by omega
    exact Nat.lt_trans y (Nat.le_of_ble_eq_true rfl)
  rw [fad_add (Nat.le_of_lt hfar)]
  exact ⟨hfar, hq⟩
theorem fad_comm {a b : Nat} : fad a b = fad b a := by unfold fad; rw [Nat.add_comm]
section WB
variable {con cst : Nat → Int32} {sc sz wt : Nat → Nat} {tof ton : Nat → Nat → Int32} {ss sk U H : Nat} {res : Int32} {dem hig pri flo sro sco : Nat → Int32} {ord : Nat → Nat} {wo : Int32} {kin : Nat → Int32} {pu pd : Nat → Nat} {P : Nat → Nat → Nat}
theorem wb_L (hH : H ≤ 6) (hpu : ∀ j, j < U → 1 ≤ pu j ∧ pu j ≤ 3) (hpd : ∀ j, j < U → 1 ≤ pd j ∧ pd j ≤ 3) (hP : ∀ h c, h < 6 → parB h (P h c))
    (hto : ∀ u k, u < U → k < ss → trO k ss (tof u ((k / max (wt u) 1) % max (sz u) 1)) (ofZ wo kin pu pd U u k)) (htn : ∀ u k, u < U → k < ss → trO k ss (ton u ((k / max (wt u) 1) % max (sz u) 1)) (onZ wo kin pu pd U u k))
    (hC : ∀ (cp : Nat → Int64) k s, k < H → s < ss → f_Search_costCombos con cst cp sk U res dem hig pri ord flo sro sco k (sc s) = lN (P k (sc s)) ∧ P k (sc s) ≤ FARn ∧ (P k (sc s) < FARn → P k (sc s) ≤ 1099511627776)) {n : Nat} (hn : n < H) :
    ∀ m y cp w3 pb ps, y - n ≤ m → n < y → y ≤ H → pb ≠ ps → rp (w3 pb) (SV (ofZ wo kin pu pd U) (onZ wo kin pu pd U) sc U P H (H - y)) ss → ∀ R, f_Search_walkBack_L16 con cst sc sz wt tof ton U ss sk U res dem hig pri ord flo sro sco n m y cp w3 pb ps = R →
      rp (R.2.2.1 R.2.2.2.1) (SV (ofZ wo kin pu pd U) (onZ wo kin pu pd U) sc U P H (H - (n + 1))) ss ∧ swp pb ps R.2.2.2.1 R.2.2.2.2 ∧ ∀ i, i ≠ pb → i ≠ ps → R.2.2.1 i = w3 i := by
  intro m
  induction m with
  | zero => intro y cp w3 pb ps h1 h2; omega
  | succ m ih =>
    intro y cp w3 pb ps h1 h2 h3 hne hB R hR
    rw [f_Search_walkBack_L16] at hR
    have ey : nI y - (1 : Int32) = nI (y - 1) := pk_sub (b := 1) (by omega)
    rw [ey] at hR
    by_cases c : n < y - 1
    · rw [if_pos (nI_lt c (by omega)), lt_eq, lt_eq] at hR
      have hcc := hC cp (y - 1)
      have hlow := SV_low (of_ := ofZ wo kin pu pd U) (on_ := onZ wo kin pu pd U) (sc := sc) (U := U) hH hP (H - y) (by omega)
      obtain ⟨b1, b2⟩ := addP_rp (cpa := f_Search_costCombos con cst cp sk U res dem hig pri ord flo sro sco (y - 1)) (sc := sc) (P := P (y - 1)) hB (fun s hs => ⟨(hcc s (by omega) hs).1, (hcc s (by omega) hs).2.1⟩) (fun s hs ha hp => by
        have x1 := bd_of (hlow s)
        have x2 := (hcc s (by omega) hs).2.2 hp
        unfold bdv at x1
        unfold FARn at *
        omega)
      generalize f_Search_costCombos con cst cp sk U res dem hig pri ord flo sro sco (y - 1) = cc at hR b1 b2
      generalize f_Search_addParts cc sc w3 ss pb = w' at hR b1 b2
      obtain ⟨t1, t2, t3⟩ := tback_spec (sz := sz) (wt := wt) (tof := tof) (ton := ton) hne b1 hto htn U (Nat.le_refl _)
      unfold f_Search_turnAllBack at hR
      generalize f_Search_turnAllBack_L2 sz wt tof ton ss w' pb ps U = q at hR t1 t2 t3
      rw [lt_eq] at hR
      dsimp only at hR
      have hSV : TB (ofZ wo kin pu pd U) (onZ wo kin pu pd U) U (fun s => fad (SV (ofZ wo kin pu pd U) (onZ wo kin pu pd U) sc U P H (H - y) s) (P (y - 1) (sc s))) = SV (ofZ wo kin pu pd U) (onZ wo kin pu pd U) sc U P H (H - (y - 1)) := by
        rw [TB_TT hpu hpd U (Nat.le_refl _), show H - (y - 1) = (H - y) + 1 by omega]
        show _ = TT _ _ U (fun s => fad (P (H - (H - y + 1)) (sc s)) (SV _ _ sc U P H (H - y) s))
        rw [show H - (H - y + 1) = y - 1 by omega]
        congr 1
        funext s
        exact fad_comm
      rw [hSV] at t1
      obtain ⟨i1, i2, i3⟩ := ih (y - 1) cc q.1 q.2.1 q.2.2 (by omega) (by omega) (by omega) (by unfold swp at t2; omega) t1 R hR
      refine ⟨i1, swp_tr t2 i2, fun i hi hj => ?_⟩
      rw [i3 i (by unfold swp at t2; omega) (by unfold swp at t2; omega), t3 i hi hj, b2 i hi]
    · rw [if_neg (nI_nlt (by omega) (by omega))] at hR
      subst hR
      have : y = n + 1 := by omega
      subst this
      exact ⟨hB, Or.inl ⟨rfl, rfl⟩, fun _ _ _ => rfl⟩
end WB
