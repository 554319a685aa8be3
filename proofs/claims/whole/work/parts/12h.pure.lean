def SV (of_ on_ : Nat → Nat → Option Nat) (sc : Nat → Nat) (U : Nat) (P : Nat → Nat → Nat) (H : Nat) : Nat → Nat → Nat
  | 0 => fun _ => 0
  | r + 1 => TT of_ on_ U (fun s => fad (P (H - (r + 1)) (sc s)) (SV of_ on_ sc U P H r s))
theorem SV_WW {of_ on_ : Nat → Nat → Option Nat} {sc : Nat → Nat} {U H : Nat} {P : Nat → Nat → Nat} : ∀ r, r ≤ H → WW of_ on_ sc U P (H - r) (SV of_ on_ sc U P H r) = WW of_ on_ sc U P H (fun _ => 0) := by
  intro r
  induction r with
  | zero => intro _; rfl
  | succ r ih =>
    intro hr
    rw [← ih (by omega), show H - r = (H - (r + 1)) + 1 by omega]
    rfl
theorem SV_le {of_ on_ : Nat → Nat → Option Nat} {sc : Nat → Nat} {U H : Nat} {P : Nat → Nat → Nat} : ∀ r s, SV of_ on_ sc U P H r s ≤ FARn := by
  intro r
  cases r with
  | zero => intro s; exact Nat.zero_le _
  | succ r => intro s; exact TT_le U _ (fun _ => fad_le) s
def lowB (h v : Nat) : Prop := v = FARn ∨ (v / 16777216 ≤ (6 - h) * 32767 ∧ v % 16777216 < 2 ^ (4 * (6 - h)))
def parB (h p : Nat) : Prop := p = FARn ∨ ∃ v o, v ≤ 32767 ∧ o < 16 ∧ p = v * 16777216 + o * 2 ^ (4 * (5 - h))
theorem e_facts {h : Nat} (hh : h ≤ 5) : 0 < 2 ^ (4 * (5 - h)) ∧ 16 * 2 ^ (4 * (5 - h)) ≤ 16777216 ∧ 2 ^ (4 * (6 - h)) = 16 * 2 ^ (4 * (5 - h)) := by
  refine ⟨Nat.two_pow_pos _, ?_, ?_⟩
  · have := Nat.pow_le_pow_right (n := 2) (by decide) (show 4 * (5 - h) ≤ 20 by omega)
    have e : (2 : Nat) ^ 20 = 1048576 := rfl
    omega
  · rw [show 4 * (6 - h) = 4 + 4 * (5 - h) by omega, Nat.pow_add]
theorem q_lt {v : Nat} (h : v / 16777216 ≤ 196602) : v < 17592186044416 := by
  have h2 : v / 16777216 < 1048576 := by omega
  have h3 := (Nat.div_lt_iff_lt_mul (k := 16777216) (x := v) (y := 1048576) (by decide)).mp h2
  exact Nat.lt_of_lt_of_le h3 (Nat.le_of_ble_eq_true rfl)
theorem q_far {v : Nat} (h : v / 16777216 ≤ 196602) : v < FARn := Nat.lt_trans (q_lt h) (Nat.le_of_ble_eq_true rfl)
theorem six_le {h : Nat} : (6 - h) * 32767 ≤ 196602 := Nat.le_trans (Nat.mul_le_mul_right _ (show 6 - h ≤ 6 by omega)) (by decide)
theorem bd_of {h v : Nat} (h1 : lowB h v) : bdv v := by
  rcases h1 with z | z
  · exact Or.inr z
  · exact Or.inl (q_lt (Nat.le_trans z.1 six_le))
theorem qr {a oe w e : Nat} (h1 : w % 16777216 < e) (h2 : oe ≤ 15 * e) (h3 : 16 * e ≤ 16777216) : (a * 16777216 + oe + w) / 16777216 = a + w / 16777216 ∧ (a * 16777216 + oe + w) % 16777216 = oe + w % 16777216 ∧ (a * 16777216 + oe) / 16777216 = a := by
  have h4 : oe + w % 16777216 < 16777216 := by omega
  have h5 : a * 16777216 + oe + w = (oe + w % 16777216) + 16777216 * (a + w / 16777216) := by
    have := Nat.div_add_mod w 16777216
    rw [Nat.mul_add, Nat.mul_comm 16777216 a]
    omega
  refine ⟨?_, ?_, ?_⟩
  · rw [h5, Nat.add_mul_div_left _ _ (by decide), Nat.div_eq_of_lt h4, Nat.zero_add]
  · rw [h5, Nat.add_mul_mod_self_left, Nat.mod_eq_of_lt h4]
  · rw [Nat.add_comm, Nat.add_mul_div_right _ _ (by decide), Nat.div_eq_of_lt (by omega), Nat.zero_add]
theorem low_add {h p v : Nat} (hh : h ≤ 5) (hp : parB h p) (hv : lowB (h + 1) v) : lowB h (fad p v) ∧ (p < FARn → v < FARn → fad p v < FARn ∧ fad p v / 2 ^ 24 = p / 2 ^ 24 + v / 2 ^ 24) := by
  rcases hp with hp | ⟨a, o, ha, ho, hp⟩
  · rw [hp, fad_far]
    exact ⟨Or.inl rfl, fun z => absurd z (Nat.lt_irrefl _)⟩
  · rcases hv with hv | ⟨hv1, hv2⟩
    · rw [hv, fad_far2]
      exact ⟨Or.inl rfl, fun _ z => absurd z (Nat.lt_irrefl _)⟩
    · obtain ⟨e1, e2, e3⟩ := e_facts hh
      rw [show 6 - (h + 1) = 5 - h by omega] at hv1 hv2
      have hoe : o * 2 ^ (4 * (5 - h)) ≤ 15 * 2 ^ (4 * (5 - h)) := Nat.mul_le_mul_right _ (by omega)
      obtain ⟨q1, q2, q3⟩ := qr (a := a) hv2 hoe e2
      have hq : (a * 16777216 + o * 2 ^ (4 * (5 - h)) + v) / 16777216 ≤ (6 - h) * 32767 := by
        rw [q1, show 6 - h = (5 - h) + 1 by omega, Nat.add_mul, Nat.one_mul]
        omega
      have hf := q_far (Nat.le_trans hq six_le)
      have ef : fad p v = a * 16777216 + o * 2 ^ (4 * (5 - h)) + v := by
        rw [hp]; exact fad_add (Nat.le_of_lt hf)
      rw [ef]
      refine ⟨Or.inr ⟨hq, ?_⟩, fun _ _ => ⟨hf, ?_⟩⟩
      · rw [q2, e3]; omega
      · rw [hp]
        show (a * 16777216 + o * 2 ^ (4 * (5 - h)) + v) / 16777216 = (a * 16777216 + o * 2 ^ (4 * (5 - h))) / 16777216 + v / 16777216
        rw [q1, q3]
theorem low_mn {h : Nat} {f : Nat → Nat} : ∀ n, (∀ i, i < n → lowB h (f i)) → lowB h (mnF f n) := by
  intro n hf
  rcases mnF_at (f := f) n with q | ⟨i, hi, q⟩
  · exact Or.inl q
  · rw [q]; exact hf i hi
theorem SV_low {of_ on_ : Nat → Nat → Option Nat} {sc : Nat → Nat} {U H : Nat} {P : Nat → Nat → Nat} (hH : H ≤ 6) (hP : ∀ h c, h < 6 → parB h (P h c)) : ∀ r, r ≤ H → ∀ s, lowB (H - r) (SV of_ on_ sc U P H r s) := by
  intro r
  induction r with
  | zero =>
    intro _ s
    show lowB (H - 0) 0
    exact Or.inr ⟨by rw [Nat.zero_div]; exact Nat.zero_le _, by rw [Nat.zero_mod]; exact Nat.two_pow_pos _⟩
  | succ r ih =>
    intro hr s
    show lowB (H - (r + 1)) (TT of_ on_ U _ s)
    rw [TT_flat U _ (fun _ => fad_le)]
    refine low_mn _ (fun x _ => ?_)
    cases chC of_ on_ U x s with
    | none => exact Or.inl rfl
    | some t =>
      refine (low_add (by omega) (hP _ _ (by omega)) ?_).1
      rw [show H - (r + 1) + 1 = H - r by omega]
      exact ih (by omega) t
theorem scS_num {z : Nat → Nat} {act : Nat → Nat → Nat} {s : Nat} : ∀ U, scS z act U s = numz three (fun u => act u (digz z s u)) U := by
  intro U
  induction U with
  | zero => rfl
  | succ U ih =>
    show scS z act U s + act U (digz z s U) * 3 ^ U = numz three _ U + act U (digz z s U) * pwz three U
    rw [ih, pw3]
theorem encM_eqF {v : Nat} (h : bdv v) : encM v = 100000000 ↔ v = FARn := by
  constructor
  · intro e
    rcases h with z | z
    · exfalso
      have hv : v < FARn := Nat.lt_trans z (Nat.le_of_ble_eq_true rfl)
      unfold encM at e
      rw [if_pos hv] at e
      have := bdv_q z
      have := (nI_eq (a := v / 2 ^ 24) (b := 100000000) (by omega) (by omega)).mp e
      omega
    · exact z
  · intro e; rw [e]; exact encM_far
theorem rel_0 {md pu pd : Nat} : relB md pu pd 0 0 = true := by
  unfold relB
  by_cases h0 : md = 0
  · rw [if_pos h0]; rfl
  · rw [if_neg h0]
    by_cases h1 : md = 1
    · rw [if_pos h1]; rfl
    · rw [if_neg h1]; rfl
theorem dp_eq {W : Nat → Nat → Int32} {costs T : Nat → Int32} {wi U Hh : Nat} {lost wo : Int32} {kin : Nat → Int32} {pu pd : Nat → Nat} {P : Nat → Nat → Nat} (hU : U ≤ 4) (hH : Hh ≤ 6) (hpu : ∀ j, j < U → 1 ≤ pu j ∧ pu j ≤ 3) (hpd : ∀ j, j < U → 1 ≤ pd j ∧ pd j ≤ 3)
    (hWu : ∀ j, j < U → W wi ((9 + (8 * j)) + 5) = nI (pu j)) (hWd : ∀ j, j < U → W wi ((9 + (8 * j)) + 6) = nI (pd j)) (hmd : ∀ j, j < U → uMd lost (fun v => W wi (9 + 8 * v)) j = uMd wo kin j) (hP : ∀ h c, h < 6 → parB h (P h c))
    (hcost : ∀ h x m, h < Hh → x < 2 ^ U → costs (81 * h + numz three (wdM x m) U) = encM (P h (numz three (wdC wo kin x m) U)))
    (hT0 : ∀ m, m < 6 ^ U → T (1296 * Hh + m) = 0) (hT : ∀ h m, h < Hh → m < 6 ^ U → T (1296 * h + m) = (f_Model_finds_L76 W costs T wi U lost (2 ^ U) h m (2 ^ U + 1) 100000000 0).1) :
    ∀ r, r ≤ Hh → ∀ m s, m < 6 ^ U → (r < Hh ∨ m = 0) → s < pwz (zU wo kin pu pd) U → (∀ u, u < U → relB (uMd wo kin u) (pu u) (pd u) (m / 6 ^ u % 6) (digz (zU wo kin pu pd) s u) = true) →
      T (1296 * (Hh - r) + m) = encM (SV (ofZ wo kin pu pd U) (onZ wo kin pu pd U) (scZ wo kin pu pd U) U P Hh r s) := by
  intro r
  induction r with
  | zero =>
    intro _ m s hm _ _ _
    rw [show Hh - 0 = Hh from rfl, hT0 m hm]
    show (0 : Int32) = encM 0
    unfold encM
    rw [if_pos (show 0 < FARn from Nat.le_of_ble_eq_true rfl)]
    rfl
  | succ r ih =>
    intro hr m s hm hm0 hs hrel
    have hlt : Hh - (r + 1) < Hh := by omega
    have h2 := pow2_4 hU
    have h2p := Nat.two_pow_pos U
    rw [hT _ m hlt hm, ← encM_far]
    have hF : ∀ x, x < 2 ^ U → f_Model_costFrom W costs T (Hh - (r + 1)) m (nI x) lost wi U = encM (gO (fun s' => fad (P (Hh - (r + 1)) (scZ wo kin pu pd U s')) (SV (ofZ wo kin pu pd U) (onZ wo kin pu pd U) (scZ wo kin pu pd U) U P Hh r s')) (chC (ofZ wo kin pu pd U) (onZ wo kin pu pd U) U x s)) ∧ bdv (gO (fun s' => fad (P (Hh - (r + 1)) (scZ wo kin pu pd U s')) (SV (ofZ wo kin pu pd U) (onZ wo kin pu pd U) (scZ wo kin pu pd U) U P Hh r s')) (chC (ofZ wo kin pu pd U) (onZ wo kin pu pd U) U x s)) := by
      intro x hx
      have hc := cs_L18 (W := W) (wi := wi) (x := x) (m := m) (lost := lost) hU (by omega) hpu hpd hWu hWd hmd hrel (U + 1) 0 0 s (by omega) (Nat.zero_le _) rfl hs ⟨fun _ => 0, rfl, fun u hu => absurd hu (Nat.not_lt_zero _)⟩ (fun u _ _ => rfl)
      simp only [Nat.pow_zero, Nat.div_one, show numz three (wdM x m) 0 = 0 from rfl] at hc
      unfold f_Model_costFrom
      rcases hc with ⟨e1, e2⟩ | ⟨nd, t', a, b, c, e1, e2, e3, e4⟩
      · rw [e1, e2]
        exact ⟨encM_far.symm, Or.inr rfl⟩
      · rw [e1, e2]
        dsimp only
        have hnx : numz six nd U < 6 ^ U := by rw [← pw6]; exact numz_lt (fun u hu => (e4 u hu).1)
        have hdg : ∀ u, u < U → numz six nd U / 6 ^ u % 6 = nd u := fun u hu => by
          have := digz_num (z := six) (d := nd) (fun v hv => (e4 v hv).1) u hu
          unfold digz at this
          rw [pw6] at this
          exact this
        have hi := ih (by omega) (numz six nd U) t' hnx (Or.inl (by omega)) e3 (fun u hu => by rw [hdg u hu]; exact (e4 u hu).2.1)
        rw [show Hh - r = Hh - (r + 1) + 1 by omega] at hi
        rw [hi, hcost (Hh - (r + 1)) x m hlt hx]
        have hsc : scZ wo kin pu pd U t' = numz three (wdC wo kin x m) U := by
          unfold scZ
          rw [scS_num]
          exact numz_congr (fun u hu => (e4 u hu).2.2)
        have hv := SV_low (of_ := ofZ wo kin pu pd U) (on_ := onZ wo kin pu pd U) (sc := scZ wo kin pu pd U) (U := U) (P := P) hH hP r (by omega) t'
        rw [show Hh - r = Hh - (r + 1) + 1 by omega] at hv
        have hp := hP (Hh - (r + 1)) (numz three (wdC wo kin x m) U) (by omega)
        have hla := low_add (by omega) hp hv
        show _ = encM (fad (P (Hh - (r + 1)) (scZ wo kin pu pd U t')) _) ∧ bdv (fad (P (Hh - (r + 1)) (scZ wo kin pu pd U t')) _)
        rw [hsc]
        refine ⟨?_, bd_of hla.1⟩
        have hbp : bdv (P (Hh - (r + 1)) (numz three (wdC wo kin x m) U)) := by
          have := (low_add (by omega) hp (show lowB (Hh - (r + 1) + 1) 0 from Or.inr ⟨by rw [Nat.zero_div]; exact Nat.zero_le _, by rw [Nat.zero_mod]; exact Nat.two_pow_pos _⟩)).1
          rw [fad_r0 (by rcases hp with z | ⟨v, o, h1, h2, h3⟩
                         · exact Nat.le_of_eq z
                         · rw [h3]
                           have hb := ph_le (v := v) (o := o) (h := Hh - (r + 1)) h1 h2
                           exact Nat.le_trans hb (Nat.le_of_ble_eq_true rfl))] at this
          exact bd_of this
        by_cases c1 : encM (P (Hh - (r + 1)) (numz three (wdC wo kin x m) U)) = 100000000
        · rw [if_pos c1, (encM_eqF hbp).mp c1, fad_far, encM_far]
        · rw [if_neg c1]
          by_cases c2 : encM (SV (ofZ wo kin pu pd U) (onZ wo kin pu pd U) (scZ wo kin pu pd U) U P Hh r t') = 100000000
          · rw [if_pos c2, (encM_eqF (bd_of hv)).mp c2, fad_far2, encM_far]
          · rw [if_neg c2]
            have f1 : P (Hh - (r + 1)) (numz three (wdC wo kin x m) U) < FARn := by
              have hbq := hbp
              rcases hbq with z | z
              · exact Nat.lt_trans z (Nat.le_of_ble_eq_true rfl)
              · exact absurd ((encM_eqF hbp).mpr z) c1
            have f2 : SV (ofZ wo kin pu pd U) (onZ wo kin pu pd U) (scZ wo kin pu pd U) U P Hh r t' < FARn := by
              rcases bd_of hv with z | z
              · exact Nat.lt_trans z (Nat.le_of_ble_eq_true rfl)
              · exact absurd ((encM_eqF (bd_of hv)).mpr z) c2
            obtain ⟨g1, g2⟩ := hla.2 f1 f2
            unfold encM
            rw [if_pos f1, if_pos f2, if_pos g1, g2, nI_add]
    rw [m76 (by omega) (by
      rcases hm0 with z | z
      · exact Or.inl (nI_lt (a := 0) (by omega) (by omega))
      · exact Or.inr (by rw [z]; rfl)) hF (2 ^ U + 1) 0 FARn (by omega) (Nat.zero_le _) (Or.inr rfl)]
    rw [Nat.sub_zero, Nat.min_eq_right (mnF_far _)]
    have e : SV (ofZ wo kin pu pd U) (onZ wo kin pu pd U) (scZ wo kin pu pd U) U P Hh (r + 1) s = mnF (fun x => gO (fun s' => fad (P (Hh - (r + 1)) (scZ wo kin pu pd U s')) (SV (ofZ wo kin pu pd U) (onZ wo kin pu pd U) (scZ wo kin pu pd U) U P Hh r s')) (chC (ofZ wo kin pu pd U) (onZ wo kin pu pd U) U x s)) (2 ^ U) := TT_flat U _ (fun _ => fad_le)
    rw [e]
    congr 1
    exact mnF_congr (fun i _ => by rw [Nat.zero_add])
