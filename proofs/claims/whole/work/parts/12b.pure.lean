theorem farlt {a : Nat} (ha : a ≤ FARn) : lN a < (1152921504606846976 : Int64) ↔ a < FARn := lN_ltF ha (Nat.le_refl _)
def rp (f : Nat → Int64) (F : Nat → Nat) (n : Nat) : Prop := ∀ t, t < n → f t = lN (F t) ∧ F t ≤ FARn
def st1 (w3 : Nat → Nat → Int64) (ps : Nat) (a : Int64) (tr : Int32) (k : Nat) : Nat → Nat → Int64 := if tr = (-1000000 : Int32) then w3 else (if a < ((w3 ps) ((nI k) + tr).toNatClampNeg) then va_up w3 ps (vp_updL (w3 ps) ((nI k) + tr).toNatClampNeg a) else w3)
theorem L62s_eq {tof ton : Nat → Nat → Int32} {pa ps u n4 n5 k : Nat} {w3 : Nat → Nat → Int64} : f_Search_turnAll_L62s tof ton pa ps u u n4 n5 k w3 = if (w3 pa) k < (1152921504606846976 : Int64) then st1 (st1 w3 ps ((w3 pa) k) (tof u ((k / n4) % n5)) k) ps ((w3 pa) k) (ton u ((k / n4) % n5)) k else w3 := rfl
def trO (k ss : Nat) (tr : Int32) (o : Option Nat) : Prop := (tr = -1000000 ∧ o = none) ∨ ∃ t, t < ss ∧ o = some t ∧ ¬ tr = -1000000 ∧ (nI k + tr).toNatClampNeg = t
theorem st1_spec {w3 : Nat → Nat → Int64} {ps k ss v : Nat} {a : Int64} {tr : Int32} {o : Option Nat} {R : Nat → Nat} (hR : rp (w3 ps) R ss) (ha : a = lN v) (hv : v ≤ FARn) (ht : trO k ss tr o) :
    ∃ R', rp ((st1 w3 ps a tr k) ps) R' ss ∧ (∀ i, i ≠ ps → st1 w3 ps a tr k i = w3 i) ∧ ∀ g : Nat → Nat, mnF (fun t => fad (R' t) (g t)) ss = min (mnF (fun t => fad (R t) (g t)) ss) (fad v (gO g o)) := by
  subst ha
  rcases ht with ⟨h1, h2⟩ | ⟨t, h1, h2, h3, h4⟩
  · refine ⟨R, ?_, ?_, fun g => ?_⟩
    · unfold st1; rw [if_pos h1]; exact hR
    · intro i _; unfold st1; rw [if_pos h1]
    · rw [h2]
      show _ = min _ (fad v FARn)
      rw [fad_far2, Nat.min_eq_left (mnF_far _)]
  · have e := hR t h1
    by_cases c : v < R t
    · have c2 : lN v < (w3 ps) ((nI k) + tr).toNatClampNeg := by rw [h4, e.1]; exact (lN_ltF hv e.2).mpr c
      refine ⟨va_up R t v, fun j hj => ?_, fun i hi => ?_, fun g => ?_⟩
      · unfold st1
        rw [if_neg h3, if_pos c2, vu_self, h4]
        by_cases q : j = t
        · subst q
          rw [pk_uLs, vu_self]; exact ⟨rfl, hv⟩
        · rw [pk_uLn q, vu_ne q]; exact hR j hj
      · unfold st1
        rw [if_neg h3, if_pos c2, vu_ne hi]
      · rw [h2]
        show _ = min _ (fad v (g t))
        rw [← mnF_up (f := fun t => fad (R t) (g t)) h1 (fad_mono (by omega))]
        refine mnF_congr (fun j hj => ?_)
        by_cases q : j = t
        · subst q; rw [vu_self, vu_self]
        · rw [vu_ne q, vu_ne q]
    · have c2 : ¬ lN v < (w3 ps) ((nI k) + tr).toNatClampNeg := by rw [h4, e.1]; exact fun z => c ((lN_ltF hv e.2).mp z)
      refine ⟨R, ?_, ?_, fun g => ?_⟩
      · unfold st1; rw [if_neg h3, if_neg c2]; exact hR
      · intro i _; unfold st1; rw [if_neg h3, if_neg c2]
      · rw [h2]
        show _ = min _ (fad v (g t))
        have h5 := mnF_le (f := fun t => fad (R t) (g t)) h1
        have h6 : fad (R t) (g t) ≤ fad v (g t) := fad_mono (by omega)
        rw [Nat.min_eq_left (Nat.le_trans h5 h6)]
def Tu (of_ on_ : Nat → Option Nat) (g : Nat → Nat) (s : Nat) : Nat := min (gO g (of_ s)) (gO g (on_ s))
theorem L62_spec {tof ton : Nat → Nat → Int32} {pa ps u n4 n5 ss : Nat} {w3 : Nat → Nat → Int64} {A : Nat → Nat} {of_ on_ : Nat → Option Nat} (hne : pa ≠ ps) (hA : rp (w3 pa) A ss) (hR : rp (w3 ps) (fun _ => FARn) ss)
    (hto : ∀ k, k < ss → trO k ss (tof u ((k / n4) % n5)) (of_ k)) (htn : ∀ k, k < ss → trO k ss (ton u ((k / n4) % n5)) (on_ k)) : ∀ k, k ≤ ss →
    ∃ R, rp ((f_Search_turnAll_L62 tof ton pa ps u u n4 n5 w3 k) ps) R ss ∧ (∀ i, i ≠ ps → f_Search_turnAll_L62 tof ton pa ps u u n4 n5 w3 k i = w3 i) ∧ ∀ g : Nat → Nat, mnF (fun t => fad (R t) (g t)) ss = mnF (fun s => fad (A s) (Tu of_ on_ g s)) k := by
  intro k
  induction k with
  | zero =>
    intro _
    refine ⟨fun _ => FARn, hR, fun i _ => rfl, fun g => ?_⟩
    exact mnF_eq (Nat.le_refl _) (fun i _ => by rw [fad_far]; exact Nat.le_refl _) (Or.inl rfl)
  | succ k ih =>
    intro hk
    obtain ⟨R, h1, h2, h3⟩ := ih (by omega)
    have e : f_Search_turnAll_L62 tof ton pa ps u u n4 n5 w3 (k + 1) = f_Search_turnAll_L62s tof ton pa ps u u n4 n5 k (f_Search_turnAll_L62 tof ton pa ps u u n4 n5 w3 k) := rfl
    rw [e, L62s_eq]
    have ha := hA k (by omega)
    have hpa : (f_Search_turnAll_L62 tof ton pa ps u u n4 n5 w3 k) pa k = lN (A k) := by rw [h2 pa hne]; exact ha.1
    rw [hpa]
    by_cases c : A k < FARn
    · rw [if_pos ((farlt ha.2).mpr c)]
      obtain ⟨R1, a1, a2, a3⟩ := st1_spec h1 rfl ha.2 (hto k (by omega))
      obtain ⟨R2, b1, b2, b3⟩ := st1_spec (k := k) a1 rfl ha.2 (htn k (by omega))
      refine ⟨R2, b1, fun i hi => by rw [b2 i hi, a2 i hi, h2 i hi], fun g => ?_⟩
      rw [b3 g, a3 g, h3 g]
      show _ = min (mnF (fun s => fad (A s) (Tu of_ on_ g s)) k) (fad (A k) (Tu of_ on_ g k))
      unfold Tu
      rw [fad_min]
      omega
    · rw [if_neg (fun z => c ((farlt ha.2).mp z))]
      refine ⟨R, h1, h2, fun g => ?_⟩
      rw [h3 g]
      show _ = min (mnF (fun s => fad (A s) (Tu of_ on_ g s)) k) (fad (A k) (Tu of_ on_ g k))
      have e2 : A k = FARn := Nat.le_antisymm ha.2 (by omega)
      rw [e2, fad_far, Nat.min_eq_left (mnF_far _)]
theorem fill_L {w3 : Nat → Nat → Int64} {ri : Nat} {v : Int64} : ∀ k, (∀ t, f_Search_fillStates_L3 ri v w3 k ri t = if t < k then v else w3 ri t) ∧ ∀ i, i ≠ ri → f_Search_fillStates_L3 ri v w3 k i = w3 i := by
  intro k
  induction k with
  | zero => exact ⟨fun t => by rw [if_neg (by omega)]; rfl, fun i _ => rfl⟩
  | succ k ih =>
    have e : f_Search_fillStates_L3 ri v w3 (k + 1) = va_up (f_Search_fillStates_L3 ri v w3 k) ri (vp_updL (f_Search_fillStates_L3 ri v w3 k ri) k v) := rfl
    rw [e]
    refine ⟨fun t => ?_, fun i hi => by rw [vu_ne hi]; exact ih.2 i hi⟩
    rw [vu_self]
    by_cases q : t = k
    · subst q; rw [pk_uLs, if_pos (by omega)]
    · rw [pk_uLn q, ih.1 t]
      exact iteC (by omega)
theorem fill_rp {w3 : Nat → Nat → Int64} {ri ss : Nat} {v : Int64} {V : Nat} (hv : v = lN V) (hV : V ≤ FARn) : rp ((f_Search_fillStates w3 ss v ri) ri) (fun _ => V) ss ∧ ∀ i, i ≠ ri → f_Search_fillStates w3 ss v ri i = w3 i := by
  refine ⟨fun t ht => ?_, (fill_L ss).2⟩
  show f_Search_fillStates_L3 ri v w3 ss ri t = lN V ∧ V ≤ FARn
  rw [(fill_L ss).1 t, if_pos ht]
  exact ⟨hv, hV⟩
def TT (of_ on_ : Nat → Nat → Option Nat) : Nat → (Nat → Nat) → Nat → Nat
  | 0, g => g
  | k + 1, g => TT of_ on_ k (Tu (of_ k) (on_ k) g)
theorem turn_spec {sz wt : Nat → Nat} {tof ton : Nat → Nat → Int32} {w3 : Nat → Nat → Int64} {pa ps su ss : Nat} {A : Nat → Nat} {of_ on_ : Nat → Nat → Option Nat} (hne : pa ≠ ps) (hA : rp (w3 pa) A ss)
    (hto : ∀ u k, u < su → k < ss → trO k ss (tof u ((k / max (wt u) 1) % max (sz u) 1)) (of_ u k)) (htn : ∀ u k, u < su → k < ss → trO k ss (ton u ((k / max (wt u) 1) % max (sz u) 1)) (on_ u k)) : ∀ k, k ≤ su →
    ∃ R, rp ((f_Search_turnAll_L2 sz wt tof ton ss w3 pa ps k).1 (f_Search_turnAll_L2 sz wt tof ton ss w3 pa ps k).2.1) R ss ∧
      (((f_Search_turnAll_L2 sz wt tof ton ss w3 pa ps k).2.1 = pa ∧ (f_Search_turnAll_L2 sz wt tof ton ss w3 pa ps k).2.2 = ps) ∨ ((f_Search_turnAll_L2 sz wt tof ton ss w3 pa ps k).2.1 = ps ∧ (f_Search_turnAll_L2 sz wt tof ton ss w3 pa ps k).2.2 = pa)) ∧
      (∀ i, i ≠ pa → i ≠ ps → (f_Search_turnAll_L2 sz wt tof ton ss w3 pa ps k).1 i = w3 i) ∧ ∀ g : Nat → Nat, mnF (fun t => fad (R t) (g t)) ss = mnF (fun s => fad (A s) (TT of_ on_ k g s)) ss := by
  intro k
  induction k with
  | zero => intro _; exact ⟨A, hA, Or.inl ⟨rfl, rfl⟩, fun i _ _ => rfl, fun g => rfl⟩
  | succ k ih =>
    intro hk
    obtain ⟨R, h1, h2, h3, h4⟩ := ih (by omega)
    generalize hq : f_Search_turnAll_L2 sz wt tof ton ss w3 pa ps k = q at h1 h2 h3
    have e : f_Search_turnAll_L2 sz wt tof ton ss w3 pa ps (k + 1) = ((f_Search_turnAll_L62 tof ton q.2.1 q.2.2 k k (max (wt k) 1) (max (sz k) 1) (f_Search_fillStates q.1 ss (1152921504606846976 : Int64) q.2.2) ss), q.2.2, q.2.1) := by
      rw [← hq]; rfl
    have hnq : q.2.1 ≠ q.2.2 := by
      rcases h2 with ⟨a, b⟩ | ⟨a, b⟩ <;> rw [a, b]
      · exact hne
      · exact fun z => hne z.symm
    obtain ⟨f1, f2⟩ := fill_rp (w3 := q.1) (ri := q.2.2) (ss := ss) (v := (1152921504606846976 : Int64)) (V := FARn) rfl (Nat.le_refl _)
    have hA2 : rp ((f_Search_fillStates q.1 ss (1152921504606846976 : Int64) q.2.2) q.2.1) R ss := by rw [f2 _ hnq]; exact h1
    obtain ⟨R', r1, r2, r3⟩ := L62_spec (tof := tof) (ton := ton) (u := k) (n4 := max (wt k) 1) (n5 := max (sz k) 1) (of_ := of_ k) (on_ := on_ k) hnq hA2 f1 (fun j hj => hto k j (by omega) hj) (fun j hj => htn k j (by omega) hj) ss (Nat.le_refl _)
    rw [e]
    refine ⟨R', r1, ?_, fun i hi hj => ?_, fun g => ?_⟩
    · rcases h2 with ⟨a, b⟩ | ⟨a, b⟩
      · exact Or.inr ⟨b, a⟩
      · exact Or.inl ⟨b, a⟩
    · have hi2 : i ≠ q.2.2 := by rcases h2 with ⟨a, b⟩ | ⟨a, b⟩ <;> rw [b] <;> assumption
      show f_Search_turnAll_L62 tof ton q.2.1 q.2.2 k k (max (wt k) 1) (max (sz k) 1) (f_Search_fillStates q.1 ss (1152921504606846976 : Int64) q.2.2) ss i = w3 i
      rw [r2 i hi2, f2 i hi2, h3 i hi hj]
    · rw [r3 g, h4 (Tu (of_ k) (on_ k) g)]
      rfl
theorem addP_L {cpa : Nat → Int64} {sc : Nat → Nat} {ri ss : Nat} {w3 : Nat → Nat → Int64} {A : Nat → Nat} {P : Nat → Nat} (hA : rp (w3 ri) A ss) (hP : ∀ s, s < ss → cpa (sc s) = lN (P (sc s)) ∧ P (sc s) ≤ FARn) (hb : ∀ s, s < ss → A s < FARn → P (sc s) < FARn → A s + P (sc s) ≤ FARn) : ∀ k, k ≤ ss →
    (∀ s, s < ss → f_Search_addParts_L2 cpa sc ri w3 k ri s = lN (if s < k then fad (A s) (P (sc s)) else A s)) ∧ ∀ i, i ≠ ri → f_Search_addParts_L2 cpa sc ri w3 k i = w3 i := by
  intro k
  induction k with
  | zero => intro _; exact ⟨fun s hs => by rw [if_neg (by omega)]; exact (hA s hs).1, fun i _ => rfl⟩
  | succ k ih =>
    intro hk
    obtain ⟨h1, h2⟩ := ih (by omega)
    have e : f_Search_addParts_L2 cpa sc ri w3 (k + 1) = f_Search_addParts_L2s cpa sc ri k (f_Search_addParts_L2 cpa sc ri w3 k) := rfl
    rw [e]
    unfold f_Search_addParts_L2s
    have ha := hA k (by omega)
    have hp := hP k (by omega)
    have hk1 := h1 k (by omega)
    rw [if_neg (by omega)] at hk1
    rw [hk1]
    by_cases c : A k < FARn
    · rw [if_pos ((farlt ha.2).mpr c)]
      refine ⟨fun s hs => ?_, fun i hi => by rw [vu_ne hi]; exact h2 i hi⟩
      rw [vu_self]
      by_cases q : s = k
      · subst q
        rw [pk_uLs, iteT (show s < s + 1 by omega), hp.1]
        by_cases d : P (sc s) < FARn
        · rw [if_pos ((farlt hp.2).mpr d), lN_add, fad_add (hb s hs c d)]
        · rw [if_neg (fun z => d ((farlt hp.2).mp z)), show P (sc s) = FARn by omega, fad_far2]
          rfl
      · rw [pk_uLn q, h1 s hs]
        rw [iteC (show s < k ↔ s < k + 1 by omega)]
    · rw [if_neg (fun z => c ((farlt ha.2).mp z))]
      refine ⟨fun s hs => ?_, h2⟩
      rw [h1 s hs]
      by_cases q : s = k
      · subst q
        rw [iteF (show ¬ s < s by omega), iteT (show s < s + 1 by omega), show A s = FARn by omega, fad_far]
      · rw [iteC (show s < k ↔ s < k + 1 by omega)]
theorem addP_rp {cpa : Nat → Int64} {sc : Nat → Nat} {ri ss : Nat} {w3 : Nat → Nat → Int64} {A : Nat → Nat} {P : Nat → Nat} (hA : rp (w3 ri) A ss) (hP : ∀ s, s < ss → cpa (sc s) = lN (P (sc s)) ∧ P (sc s) ≤ FARn) (hb : ∀ s, s < ss → A s < FARn → P (sc s) < FARn → A s + P (sc s) ≤ FARn) : rp ((f_Search_addParts cpa sc w3 ss ri) ri) (fun s => fad (A s) (P (sc s))) ss ∧ ∀ i, i ≠ ri → f_Search_addParts cpa sc w3 ss ri i = w3 i := by
  obtain ⟨h1, h2⟩ := addP_L hA hP hb ss (Nat.le_refl _)
  refine ⟨fun s hs => ⟨?_, fad_le⟩, h2⟩
  show f_Search_addParts_L2 cpa sc ri w3 ss ri s = _
  rw [h1 s hs, if_pos hs]
