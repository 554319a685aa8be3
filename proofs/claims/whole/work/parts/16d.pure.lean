theorem cob {D : Nat} : f_Search_costOf (encB D) = if D < FARn then nI (D / 16777216) else -1000000 := by
  unfold encB
  by_cases c : D < FARn
  · rw [if_pos c, if_pos c, costOf_nat c]
  · rw [if_neg c, if_neg c, costOf_none]
theorem ca_L {con cst : Nat → Int32} {car : Nat → Int64} {U n N : Nat} {res : Int32} {hig pri flo sro sco : Nat → Int32} {ord : Nat → Nat} {de : Int32} {C Q : Nat → Nat} (hn : n ≤ 5) (hN : N ≤ 81) (hcar : ∀ c, c < 81 → car c = lN (C c)) (hmid : ∀ c, midB n (C c))
    (hQ : ∀ c, c < N → (f_Day_hourCost U res hig pri ord flo sro sco de (con c) (cst c) = -1000000 ∧ Q c = FARn) ∨ ∃ v o, v ≤ 32767 ∧ o < 16 ∧ f_Day_hourCost U res hig pri ord flo sro sco de (con c) (cst c) = nI v ∧ Q c = v * 16777216 + o * 2 ^ (4 * (5 - n))) :
    ∀ k, k ≤ N → f_Search_costAround_L6 con cst car U res hig pri ord flo sro sco de (-1000000) k = f_Search_costOf (encB (mnF (fun c => fad (C c) (Q c)) k)) ∧ (mnF (fun c => fad (C c) (Q c)) k = FARn ∨ mnF (fun c => fad (C c) (Q c)) k / 16777216 ≤ 229369) := by
  intro k
  induction k with
  | zero => intro _; exact ⟨by rw [cob]; rfl, Or.inl rfl⟩
  | succ k ih =>
    intro hk
    obtain ⟨i1, i2⟩ := ih (by omega)
    have e : f_Search_costAround_L6 con cst car U res hig pri ord flo sro sco de (-1000000) (k + 1) = f_Search_costAround_L6s con cst car U res hig pri ord flo sro sco de k (f_Search_costAround_L6 con cst car U res hig pri ord flo sro sco de (-1000000) k) := rfl
    rw [e, i1]
    show f_Search_costAround_L6s con cst car U res hig pri ord flo sro sco de k (f_Search_costOf (encB (mnF (fun c => fad (C c) (Q c)) k))) = f_Search_costOf (encB (min (mnF (fun c => fad (C c) (Q c)) k) (fad (C k) (Q k)))) ∧ (min (mnF (fun c => fad (C c) (Q c)) k) (fad (C k) (Q k)) = FARn ∨ min (mnF (fun c => fad (C c) (Q c)) k) (fad (C k) (Q k)) / 16777216 ≤ 229369)
    have hD : mnF (fun c => fad (C c) (Q c)) k ≤ FARn := mnF_far k
    generalize mnF (fun c => fad (C c) (Q c)) k = D at i2 hD
    unfold f_Search_costAround_L6s
    rw [hcar k (by omega)]
    have hCk : C k ≤ FARn := by
      rcases hmid k with z | z
      · rw [z]; exact Nat.le_refl _
      · exact Nat.le_of_lt (q_far z.1)
    by_cases c1 : C k < FARn
    · rw [if_pos ((farlt hCk).mpr c1)]
      rcases hQ k (by omega) with ⟨q1, q2⟩ | ⟨v, o, v1, v2, q1, q2⟩
      · rw [if_pos q1, q2, fad_far2, Nat.min_eq_left hD]
        exact ⟨rfl, i2⟩
      · have hvn : ¬ nI v = (-1000000 : Int32) := fun z => by
          have h0 : ¬ nI v < 0 := nI_nneg (by omega)
          rw [z] at h0
          exact h0 (by decide)
        rw [q1, if_neg hvn, costOf_nat c1, nI_add, q2]
        obtain ⟨m1, m2⟩ := mid_add hn (hmid k) c1 v1 v2
        have m3 : C k / 16777216 ≤ 196602 := by
          rcases hmid k with z | z
          · rw [z] at c1; exact absurd c1 (Nat.lt_irrefl _)
          · exact z.1
        show (if f_Search_costOf (encB D) = -1000000 then nI (C k / 16777216 + v) else if nI (C k / 16777216 + v) < f_Search_costOf (encB D) then nI (C k / 16777216 + v) else f_Search_costOf (encB D)) = _ ∧ _
        rw [← m2]
        generalize fad (C k) (v * 16777216 + o * 2 ^ (4 * (5 - n))) = t at m1 m2
        rw [cob, cob]
        by_cases c2 : D < FARn
        · have c3 : D / 16777216 ≤ 229369 := by
            rcases i2 with z | z
            · rw [z] at c2; exact absurd c2 (Nat.lt_irrefl _)
            · exact z
          have hdn : ¬ nI (D / 16777216) = (-1000000 : Int32) := fun z => by
            have h0 : ¬ nI (D / 16777216) < 0 := nI_nneg (by omega)
            rw [z] at h0
            exact h0 (by decide)
          rw [if_pos c2, if_neg hdn, iteT (show min D t < FARn by omega)]
          refine ⟨?_, Or.inr ?_⟩
          · by_cases c4 : t / 16777216 < D / 16777216
            · rw [if_pos (nI_lt c4 (by omega))]
              have : min D t = t := Nat.min_eq_right (by omega)
              rw [this]
            · rw [if_neg (nI_nlt (by omega) (by omega))]
              congr 1
              rcases Nat.le_total D t with z | z
              · rw [Nat.min_eq_left z]
              · rw [Nat.min_eq_right z]; omega
          · rcases Nat.le_total D t with z | z
            · rw [Nat.min_eq_left z]; exact c3
            · rw [Nat.min_eq_right z]; omega
        · have : min D t = t := Nat.min_eq_right (by omega)
          rw [if_neg c2, iteT (show (-1000000 : Int32) = -1000000 from rfl), this, if_pos m1]
          exact ⟨rfl, Or.inr (by omega)⟩
    · have : C k = FARn := by omega
      rw [if_neg (fun z => c1 ((farlt hCk).mp z)), this, fad_far, Nat.min_eq_left hD]
      exact ⟨rfl, i2⟩
theorem around_is {P : Nat → Nat} {H U n : Nat} {res : Int32} {dem kin low hig pri sta ups dow onn flo sro sco : Nat → Int32} {ord : Nat → Nat} {con cst : Nat → Int32} {cpa car : Nat → Int64} {ssc ssz swt : Nat → Nat} {tof ton : Nat → Nat → Int32} {w3 : Nat → Nat → Int64} {pa pb ps : Nat} {R : (Nat → Int64) × (Nat → Int64) × (Nat → Nat) × (Nat → Nat) × (Nat → Nat) × (Nat → Nat → Int32) × (Nat → Nat → Int32) × (Nat → Nat → Int64) × Nat × Nat × Nat × Nat × Nat × Nat} (hP : nOK P) (hc : cD P H U res dem kin low hig pri sta ups dow onn) (hs : cS P ord flo sro sco) (ht : tbl con cst) (hpm : perm3 pa pb ps) (hn : n < P 1)
    (hR : f_Search_lookAround con cst cpa car ssc ssz swt tof ton w3 pa pb ps H U res dem kin hig pri ord flo sro sco n (fun j => P ((9 + (8 * j)) + 5)) (fun j => P ((9 + (8 * j)) + 6)) = R) :
    perm3 R.2.2.2.2.2.2.2.2.1 R.2.2.2.2.2.2.2.2.2.1 R.2.2.2.2.2.2.2.2.2.2.1 ∧ ∀ d, d ≤ 60 → ∀ (W : Nat → Nat → Int32) (wi : Nat) (gvn costs lst sets : Nat → Int32), mD (W wi) (va_up P (3 + n) d) → (f_Model_bestCost W gvn costs lst sets (-1000000) wi (P 0) (P 1)).1 = f_Search_costAround con cst R.2.1 R.2.2.2.2.2.2.2.2.2.2.2.2.2 U res hig pri ord flo sro sco (nI d) := by
  have hP0 := hP
  have hc0 := hc
  obtain ⟨h0, h1, h2, h3, h4, h5⟩ := hP
  obtain ⟨rfl, rfl, c2, c3, c4⟩ := hc
  have hmk : ∃ f : Nat → Int32, mD f P := ⟨fun k => nI (P k), fun _ _ => rfl⟩
  obtain ⟨f, hf⟩ := hmk
  have hu := uOK_of hP0 hf hc0 hs
  have hv := hv_all (W := fun _ => f) (wi := 0) (dd := fun h => P (3 + h)) (r := P 2) (dem := dem) (sr := srP P) (sc := scP P) h0 h1 (fun h hh => ⟨hf _ (by omega), c3 h hh, by have := h4 h hh; omega⟩) (hf 2 (by omega)) (by omega) c2 hs.1 hu
  have hpar := PD_par (H := P 1) hv
  have hpu : ∀ j, j < P 0 → 1 ≤ P ((9 + (8 * j)) + 5) ∧ P ((9 + (8 * j)) + 5) ≤ 3 := fun j hj => (h5 j hj).2.2.2.2.2.2.1
  have hpd : ∀ j, j < P 0 → 1 ≤ P ((9 + (8 * j)) + 6) ∧ P ((9 + (8 * j)) + 6) ≤ 3 := fun j hj => (h5 j hj).2.2.2.2.2.2.2.1
  have hcon : ∀ c, c < 81 → con c = nI (onC c) := fun c hc => (ht c hc).1
  have hcst : ∀ c, c < 81 → cst c = nI (stC c) := fun c hc => (ht c hc).2
  obtain ⟨k1, k2, C, k3, k4, k5⟩ := look_spec (pu := fun j => P ((9 + (8 * j)) + 5)) (pd := fun j => P ((9 + (8 * j)) + 6)) h0 h1 hn hpu hpd hpm hpar (PD_cc h0 h1 hcon hcst hv) hR
  refine ⟨k2, fun d hd W wi gvn costs lst sets hm => ?_⟩
  have hP2 : nOK (va_up P (3 + n) d) := nOK_dem hP0 hn hd
  have hc2 : cD (va_up P (3 + n) d) (P 1) (P 0) res (va_up dem n (nI d)) kin low hig pri sta ups dow onn := cD_dem hc0 hn h1
  have hs2 : cS (va_up P (3 + n) d) ord flo sro sco := cS_dem (by omega) hs
  have z0 : va_up P (3 + n) d 0 = P 0 := vu_ne (by omega)
  have z1 : va_up P (3 + n) d 1 = P 1 := vu_ne (by omega)
  have zu : (fun j => va_up P (3 + n) d ((9 + (8 * j)) + 5)) = fun j => P ((9 + (8 * j)) + 5) := by
    funext j; rw [vu_ne (by omega)]
  have zd : (fun j => va_up P (3 + n) d ((9 + (8 * j)) + 6)) = fun j => P ((9 + (8 * j)) + 6) := by
    funext j; rw [vu_ne (by omega)]
  have hb := best_is (lost := -1000000) (wo := -1) (con := con) (cst := cst) (cpa := cpa) (ssc := ssc) (ssz := ssz) (swt := swt) (tof := tof) (ton := ton) (w3 := w3) (pa := 0) (ps := 1) hP2 (by decide) hc2 hs2 ht (by decide) (Or.inl ⟨rfl, rfl⟩)
  rw [zu, zd] at hb
  obtain ⟨D, -, -, b3, -, -⟩ := hb W wi gvn costs lst sets hm
  rw [z0, z1] at b3
  rw [b3]
  obtain ⟨f2, hf2⟩ : ∃ f : Nat → Int32, mD f (va_up P (3 + n) d) := ⟨fun k => nI (va_up P (3 + n) d k), fun _ _ => rfl⟩
  have hu2 := uOK_of hP2 hf2 hc2 hs2
  have hdd : ∀ h, h < P 1 → f2 (3 + h) = nI (va_up P (3 + n) d (3 + h)) ∧ va_up dem n (nI d) h = nI (va_up P (3 + n) d (3 + h)) ∧ va_up P (3 + n) d (3 + h) ≤ 100 := fun h hh => ⟨hf2 _ (by omega), hc2.2.2.2.1 h (by rw [z1]; exact hh), by have := hP2.2.2.2.2.1 h (by rw [z1]; exact hh); omega⟩
  have hv2 := hv_all (W := fun _ => f2) (wi := 0) (dd := fun h => va_up P (3 + n) d (3 + h)) (r := va_up P (3 + n) d 2) (dem := va_up dem n (nI d)) (sr := srP (va_up P (3 + n) d)) (sc := scP (va_up P (3 + n) d)) h0 h1 hdd (hf2 2 (by omega)) (by have := hP2.2.2.2.1; omega) hc2.2.2.1 (by have := hs2.1; rw [z0] at this; exact this) hu2
  rw [fb_gen (P := PD (P 0) (P 1) res (va_up dem n (nI d)) hig pri ord flo sro sco) h0 h1 hpu hpd (by decide) (PD_cc h0 h1 hcon hcst hv2)]
  rw [k5 (PD (P 0) (P 1) res (va_up dem n (nI d)) hig pri ord flo sro sco) (fun h hh hne => by
    funext c
    unfold PD hcN
    rw [vu_ne hne])]
  unfold f_Search_costAround
  rw [k1]
  refine ((ca_L (N := 3 ^ P 0) (by omega) (pow3_4 h0) k3 k4 (fun c hc => ?_) (3 ^ P 0) (Nat.le_refl _)).1).symm
  have h81 : c < 81 := Nat.lt_of_lt_of_le hc (pow3_4 h0)
  have hh := hv2 n c hn h81
  unfold PD
  rw [iteT (show n < P 1 ∧ c < 81 from ⟨hn, h81⟩), hcon c h81, hcst c h81]
  have eh : f_Day_hourCost (P 0) res hig pri ord flo sro sco (nI d) (nI (onC c)) (nI (stC c)) = hcN (P 0) res (va_up dem n (nI d)) hig pri ord flo sro sco n c := by
    unfold hcN
    rw [vu_self]
  rw [eh]
  rcases hh with z | ⟨v, z1, z2⟩
  · exact Or.inl ⟨z, if_pos z⟩
  · have hvn : ¬ nI v = (-1000000 : Int32) := fun z => by
      have h0 : ¬ nI v < 0 := nI_nneg (by omega)
      rw [z] at h0
      exact h0 (by decide)
    refine Or.inr ⟨v, onC c, z1, onC_lt, z2, ?_⟩
    rw [z2, if_neg hvn, nI_clamp (by omega)]
