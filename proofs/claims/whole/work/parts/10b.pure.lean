theorem enc1 (o s : Nat) : nI ((o + 1) * s) - nI (o * s) = 1 * nI s := by
  rw [Nat.add_mul, Nat.one_mul, ← nI_add]
  grind
theorem enc0 (a : Nat) (b : Int32) : nI a - nI a = 0 * b := by grind
theorem encm (o s : Nat) : nI (o * s) - nI ((o + 1) * s) = -(nI s) := by
  rw [Nat.add_mul, Nat.one_mul, ← nI_add]
  grind
theorem encd (a b s : Nat) : (nI a - nI b) * nI s = nI (a * s) - nI (b * s) := by
  rw [← pk_mul, ← pk_mul]
  grind
theorem lu_spec {sc sz : Nat → Nat} {tof ton : Nat → Nat → Int32} {ss sk u pu pd : Nat} (hpu : 1 ≤ pu ∧ pu ≤ 3) (hpd : 1 ≤ pd ∧ pd ≤ 3) :
    (∀ own s, own < pd + max pu 2 → s < ss → (f_Search_layUnitStates sc sz tof ton ss sk u pu pd).1 (own * ss + s) = sc s + uAct 2 pu pd own * sk) ∧
    (f_Search_layUnitStates sc sz tof ton ss sk u pu pd).2.1 = va_up sz u (pd + max pu 2) ∧
    (∀ own, own < pd + max pu 2 → (f_Search_layUnitStates sc sz tof ton ss sk u pu pd).2.2.1 u own = uEnc ss own (uOff 2 pu pd own) ∧ (f_Search_layUnitStates sc sz tof ton ss sk u pu pd).2.2.2 u own = uEnc ss own (uOn 2 pu pd own)) ∧
    (∀ v own, v ≠ u → (f_Search_layUnitStates sc sz tof ton ss sk u pu pd).2.2.1 v own = tof v own ∧ (f_Search_layUnitStates sc sz tof ton ss sk u pu pd).2.2.2 v own = ton v own) := by
  obtain ⟨a1, a2, a3⟩ := lu23 (ss := ss) (sk := sk) (u := u) (pu := pu) (most := max pu 2) hpd.1 (max pu 2 + 1) (max pu 2) sc tof ton (by omega) (by omega)
  obtain ⟨b1, b2, b3⟩ := lu122 (ss := ss) (sk := sk) (u := u) (pd := pd) (pd + 1) pd (f_Search_layUnitStates_L23 ss sk u pu pd (max pu 2) (max pu 2 + 1) (max pu 2) sc tof ton).2.1 (f_Search_layUnitStates_L23 ss sk u pu pd (max pu 2) (max pu 2 + 1) (max pu 2) sc tof ton).2.2.1 (f_Search_layUnitStates_L23 ss sk u pu pd (max pu 2) (max pu 2 + 1) (max pu 2) sc tof ton).2.2.2 (by omega) (by omega)
  refine ⟨fun own s ho hs => ?_, rfl, fun own ho => ⟨?_, ?_⟩, fun v own hv => ⟨?_, ?_⟩⟩
  · refine (b1 own s hs).trans ?_
    unfold uAct
    rw [iteF (show ¬ 2 = 0 by decide), iteF (show ¬ 2 = 1 by decide)]
    by_cases q : own < pd
    · rw [iteT q, iteT q, Nat.zero_mul, Nat.add_zero]
      have := a1 0 s hs
      rw [iteF (show ¬ (pd ≤ 0 ∧ 0 < pd + max pu 2) by omega), Nat.zero_mul, Nat.zero_add] at this
      exact this
    · rw [iteF q, iteF q, a1 own s hs, iteT (show pd ≤ own ∧ own < pd + max pu 2 by omega)]
  · refine (b2 u own).trans ?_
    unfold uOff
    rw [iteF (show ¬ 2 = 0 by decide), iteF (show ¬ 2 = 1 by decide)]
    by_cases q : own < pd
    · rw [iteT (show u = u ∧ own < pd from ⟨rfl, q⟩), iteT q]
      rcases Nat.eq_zero_or_pos own with z | z
      · subst z
        show (if (0 : Int32) < nI 0 then -(nI ss) else (0 : Int32)) = nI (0 * ss) - nI (0 * ss)
        rw [iteF (show ¬ (0 : Int32) < nI 0 by decide), enc0 _ 0]; decide
      · rw [iteT (show (0 : Int32) < nI own from nI_lt (a := 0) z (by omega))]
        obtain ⟨m, rfl⟩ : ∃ m, own = m + 1 := ⟨own - 1, by omega⟩
        exact (encm m ss).symm
    · rw [iteF (show ¬ (u = u ∧ own < pd) from fun z => q z.2), iteF q, a2 u own, iteT (show u = u ∧ pd ≤ own ∧ own < pd + max pu 2 by omega)]
      by_cases r : own - pd + 1 < pu
      · rw [iteT r, iteT (show nI (own - pd + 1) < nI pu from nI_lt r (by omega))]; rfl
      · rw [iteF r, iteF (show ¬ nI (own - pd + 1) < nI pu from nI_nlt (by omega) (by omega))]
        exact encd _ _ _
  · refine (b3 u own).trans ?_
    unfold uOn
    rw [iteF (show ¬ 2 = 0 by decide), iteF (show ¬ 2 = 1 by decide)]
    by_cases q : own < pd
    · rw [iteT (show u = u ∧ own < pd from ⟨rfl, q⟩), iteT q]
      rcases Nat.eq_zero_or_pos own with z | z
      · subst z
        rw [iteF (show ¬ (0 : Int32) < nI 0 by decide), iteT (show (0 : Nat) = 0 from rfl)]
        show nI (pd * ss) = nI (pd * ss) - nI (0 * ss)
        rw [Nat.zero_mul, nI_0]
        grind
      · rw [iteT (show (0 : Int32) < nI own from nI_lt (a := 0) z (by omega)), iteF (show ¬ own = 0 by omega)]; rfl
    · rw [iteF (show ¬ (u = u ∧ own < pd) from fun z => q z.2), iteF q, a3 u own, iteT (show u = u ∧ pd ≤ own ∧ own < pd + max pu 2 by omega)]
      by_cases r : own + 1 < pd + max pu 2
      · rw [iteT r, iteT (show nI (own - pd) < nI (max pu 2 - 1) from nI_lt (by omega) (by omega))]
        exact (enc1 own ss).symm
      · rw [iteF r, iteF (show ¬ nI (own - pd) < nI (max pu 2 - 1) from nI_nlt (by omega) (by omega))]
        exact (enc0 _ _).symm
  · refine (b2 v own).trans ?_
    rw [iteF (show ¬ (v = u ∧ own < pd) from fun z => hv z.1), a2 v own, iteF (show ¬ (v = u ∧ pd ≤ own ∧ own < pd + max pu 2) from fun z => hv z.1)]
  · refine (b3 v own).trans ?_
    rw [iteF (show ¬ (v = u ∧ own < pd) from fun z => hv z.1), a3 v own, iteF (show ¬ (v = u ∧ pd ≤ own ∧ own < pd + max pu 2) from fun z => hv z.1)]
theorem lo_spec {sc sz : Nat → Nat} {tof ton : Nat → Nat → Int32} {ss sk u pu pd md : Nat} (hmd : md < 2) :
    (∀ own s, own < 1 → s < ss → (f_Search_layOnlyState sc sz tof ton ss sk u md).1 (own * ss + s) = sc s + uAct md pu pd own * sk) ∧
    (f_Search_layOnlyState sc sz tof ton ss sk u md).2.1 = va_up sz u 1 ∧
    (∀ own, own < 1 → (f_Search_layOnlyState sc sz tof ton ss sk u md).2.2.1 u own = uEnc ss own (uOff md pu pd own) ∧ (f_Search_layOnlyState sc sz tof ton ss sk u md).2.2.2 u own = uEnc ss own (uOn md pu pd own)) ∧
    (∀ v own, v ≠ u → (f_Search_layOnlyState sc sz tof ton ss sk u md).2.2.1 v own = tof v own ∧ (f_Search_layOnlyState sc sz tof ton ss sk u md).2.2.2 v own = ton v own) := by
  have hm : md = 0 ∨ md = 1 := by omega
  refine ⟨fun own s ho hs => ?_, rfl, fun own ho => ⟨?_, ?_⟩, fun v own hv => ⟨?_, ?_⟩⟩
  · obtain rfl : own = 0 := by omega
    refine (lc_row (sc := sc) (sk := sk) (ow := 0) (ac := md) (own := 0) hs).trans ?_
    rw [iteT (show (0 : Nat) = 0 from rfl)]
    rcases hm with h | h <;> subst h <;> rfl
  · obtain rfl : own = 0 := by omega
    show va_up tof u (upd (tof u) 0 (if (nI md) = (0 : Int32) then (0 : Int32) else (-1000000 : Int32))) u 0 = _
    rw [vu_self, pk_us]
    rcases hm with h | h <;> subst h
    · show _ = nI (0 * ss) - nI (0 * ss)
      rw [Nat.zero_mul]; decide
    · rfl
  · obtain rfl : own = 0 := by omega
    show va_up ton u (upd (ton u) 0 (if (nI md) = (0 : Int32) then (-1000000 : Int32) else (0 : Int32))) u 0 = _
    rw [vu_self, pk_us]
    rcases hm with h | h <;> subst h
    · rfl
    · show _ = nI (0 * ss) - nI (0 * ss)
      rw [Nat.zero_mul]; decide
  · show va_up tof u (upd (tof u) 0 (if (nI md) = (0 : Int32) then (0 : Int32) else (-1000000 : Int32))) v own = _
    rw [vu_ne hv]
  · show va_up ton u (upd (ton u) 0 (if (nI md) = (0 : Int32) then (-1000000 : Int32) else (0 : Int32))) v own = _
    rw [vu_ne hv]
def scS (z : Nat → Nat) (act : Nat → Nat → Nat) : Nat → Nat → Nat
  | 0, _ => 0
  | u + 1, s => scS z act u s + act u (digz z s u) * 3 ^ u
def zU (wo : Int32) (kin : Nat → Int32) (pu pd : Nat → Nat) (u : Nat) : Nat := uSz (uMd wo kin u) (pu u) (pd u)
def aU (wo : Int32) (kin : Nat → Int32) (pu pd : Nat → Nat) (u own : Nat) : Nat := uAct (uMd wo kin u) (pu u) (pd u) own
theorem uMd_lt {wo : Int32} {kin : Nat → Int32} {u : Nat} : uMd wo kin u ≤ 2 := by unfold uMd; (repeat' split) <;> omega
theorem zU_pos {wo : Int32} {kin : Nat → Int32} {pu pd : Nat → Nat} {u : Nat} : 0 < zU wo kin pu pd u := by unfold zU uSz; split <;> omega
theorem zU_le {wo : Int32} {kin : Nat → Int32} {pu pd : Nat → Nat} {u : Nat} (h1 : pu u ≤ 3) (h2 : pd u ≤ 3) : zU wo kin pu pd u ≤ 6 := by unfold zU uSz; split <;> omega
theorem scS_add {z : Nat → Nat} {act : Nat → Nat → Nat} {y s c : Nat} (hz : ∀ u, u < y → 0 < z u) : ∀ v, v ≤ y → scS z act v (s + c * pwz z y) = scS z act v s := by
  intro v
  induction v with
  | zero => intro _; rfl
  | succ v ih =>
    intro h
    show scS z act v (s + c * pwz z y) + act v (digz z (s + c * pwz z y) v) * 3 ^ v = scS z act v s + act v (digz z s v) * 3 ^ v
    rw [ih (by omega), digz_add (by omega) hz]
def lsI (wo : Int32) (kin : Nat → Int32) (pu pd : Nat → Nat) (y : Nat) (sc sz wt : Nat → Nat) (tof ton : Nat → Nat → Int32) (ss sk : Nat) : Prop :=
  (∀ u, u < y → sz u = zU wo kin pu pd u ∧ wt u = pwz (zU wo kin pu pd) u) ∧ ss = pwz (zU wo kin pu pd) y ∧ sk = 3 ^ y ∧
  (∀ u own, u < y → own < zU wo kin pu pd u → tof u own = uEnc (pwz (zU wo kin pu pd) u) own (uOff (uMd wo kin u) (pu u) (pd u) own) ∧ ton u own = uEnc (pwz (zU wo kin pu pd) u) own (uOn (uMd wo kin u) (pu u) (pd u) own)) ∧
  ∀ s, s < ss → sc s = scS (zU wo kin pu pd) (aU wo kin pu pd) y s
theorem ls_step {wo : Int32} {kin : Nat → Int32} {pu pd : Nat → Nat} {y : Nat} {sc sz wt : Nat → Nat} {tof ton : Nat → Nat → Int32} {ss sk : Nat} {sc' sz' : Nat → Nat} {tof' ton' : Nat → Nat → Int32} (h : lsI wo kin pu pd y sc sz wt tof ton ss sk)
    (h1 : ∀ own s, own < zU wo kin pu pd y → s < ss → sc' (own * ss + s) = sc s + aU wo kin pu pd y own * sk) (h2 : sz' = va_up sz y (zU wo kin pu pd y))
    (h3 : ∀ own, own < zU wo kin pu pd y → tof' y own = uEnc ss own (uOff (uMd wo kin y) (pu y) (pd y) own) ∧ ton' y own = uEnc ss own (uOn (uMd wo kin y) (pu y) (pd y) own))
    (h4 : ∀ v own, v ≠ y → tof' v own = tof v own ∧ ton' v own = ton v own) : lsI wo kin pu pd (y + 1) sc' sz' (va_up wt y ss) tof' ton' (ss * sz' y) (sk * 3) := by
  obtain ⟨a1, a2, a3, a4, a5⟩ := h
  have hp : 0 < ss := by rw [a2]; exact pwz_pos (fun u _ => zU_pos)
  have hzy : sz' y = zU wo kin pu pd y := by rw [h2, vu_self]
  refine ⟨fun u hu => ?_, by rw [hzy, a2]; rfl, by rw [a3, Nat.pow_succ], fun u own hu ho => ?_, fun s hs => ?_⟩
  · by_cases q : u = y
    · subst q
      exact ⟨hzy, by rw [vu_self, a2]⟩
    · rw [h2, vu_ne q, vu_ne q]
      exact a1 u (by omega)
  · by_cases q : u = y
    · subst q
      rw [← a2]
      exact h3 own ho
    · rw [(h4 u own q).1, (h4 u own q).2]
      exact a4 u own (by omega) ho
  · rw [hzy] at hs
    have hdm : s / ss * ss + s % ss = s := by rw [Nat.mul_comm]; exact Nat.div_add_mod s ss
    have hl : s % ss < ss := Nat.mod_lt _ hp
    have ho : s / ss < zU wo kin pu pd y := Nat.div_lt_of_lt_mul hs
    have e1 := h1 (s / ss) (s % ss) ho hl
    rw [hdm, a5 _ hl, a3] at e1
    rw [e1]
    show _ = scS (zU wo kin pu pd) (aU wo kin pu pd) y s + aU wo kin pu pd y (digz (zU wo kin pu pd) s y) * 3 ^ y
    have e2 : digz (zU wo kin pu pd) s y = s / ss := by
      unfold digz
      rw [← a2, Nat.mod_eq_of_lt ho]
    have e3 : scS (zU wo kin pu pd) (aU wo kin pu pd) y s = scS (zU wo kin pu pd) (aU wo kin pu pd) y (s % ss) := by
      have := scS_add (z := zU wo kin pu pd) (act := aU wo kin pu pd) (y := y) (s := s % ss) (c := s / ss) (fun u _ => zU_pos) y (Nat.le_refl _)
      rw [← a2, Nat.add_comm, hdm] at this
      exact this
    rw [e2, e3]
theorem ls27 {wo : Int32} {kin : Nat → Int32} {pu pd : Nat → Nat} {U : Nat} (hU : U ≤ 4) (hpu : ∀ j, j < U → 1 ≤ pu j ∧ pu j ≤ 3) (hpd : ∀ j, j < U → 1 ≤ pd j ∧ pd j ≤ 3) : ∀ (n y : Nat) (sc sz wt : Nat → Nat) (tof ton : Nat → Nat → Int32) (ss sk : Nat), U - y < n → y ≤ U → lsI wo kin pu pd y sc sz wt tof ton ss sk →
    ∃ sc' sz' wt' tof' ton' ss' sk', f_Search_layStates_L27 U kin pu pd wo n y sc sz wt tof ton ss sk = (U, sc', sz', wt', tof', ton', ss', sk') ∧ lsI wo kin pu pd U sc' sz' wt' tof' ton' ss' sk' := by
  intro n
  induction n with
  | zero => intro y _ _ _ _ _ _ _ h; exact absurd h (Nat.not_lt_zero _)
  | succ n ih =>
    intro y sc sz wt tof ton ss sk hn hy hI
    rw [f_Search_layStates_L27]
    by_cases c : nI y < nI U
    · rw [if_pos c]
      have hlt := nI_ltX c (by omega) (by omega)
      by_cases c1 : nI y = wo
      · rw [if_pos c1]
        have hm : uMd wo kin y = 0 := by unfold uMd; rw [if_pos c1]
        have hz : zU wo kin pu pd y = 1 := by unfold zU; rw [hm]; rfl
        obtain ⟨s1, s2, s3, s4⟩ := lo_spec (sc := sc) (sz := sz) (tof := tof) (ton := ton) (ss := ss) (sk := sk) (u := y) (pu := pu y) (pd := pd y) (md := 0) (by decide)
        refine ih (y + 1) _ _ _ _ _ _ _ (by omega) hlt (ls_step hI ?_ ?_ ?_ ?_)
        · rw [hz]; unfold aU; rw [hm]; exact s1
        · rw [hz]; exact s2
        · rw [hz, hm]; exact s3
        · exact s4
      · rw [if_neg c1]
        by_cases c2 : kin y = 5
        · rw [if_pos c2]
          have hm : uMd wo kin y = 1 := by unfold uMd; rw [if_neg c1, if_pos c2]
          have hz : zU wo kin pu pd y = 1 := by unfold zU; rw [hm]; rfl
          obtain ⟨s1, s2, s3, s4⟩ := lo_spec (sc := sc) (sz := sz) (tof := tof) (ton := ton) (ss := ss) (sk := sk) (u := y) (pu := pu y) (pd := pd y) (md := 1) (by decide)
          refine ih (y + 1) _ _ _ _ _ _ _ (by omega) hlt (ls_step hI ?_ ?_ ?_ ?_)
          · rw [hz]; unfold aU; rw [hm]; exact s1
          · rw [hz]; exact s2
          · rw [hz, hm]; exact s3
          · exact s4
        · rw [if_neg c2]
          have hm : uMd wo kin y = 2 := by unfold uMd; rw [if_neg c1, if_neg c2]
          have hz : zU wo kin pu pd y = pd y + max (pu y) 2 := by unfold zU; rw [hm]; rfl
          obtain ⟨s1, s2, s3, s4⟩ := lu_spec (sc := sc) (sz := sz) (tof := tof) (ton := ton) (ss := ss) (sk := sk) (u := y) (hpu y hlt) (hpd y hlt)
          refine ih (y + 1) _ _ _ _ _ _ _ (by omega) hlt (ls_step hI ?_ ?_ ?_ ?_)
          · rw [hz]; unfold aU; rw [hm]; exact s1
          · rw [hz]; exact s2
          · rw [hz, hm]; exact s3
          · exact s4
    · rw [if_neg c]
      have hge : U ≤ y := Nat.le_of_not_lt (fun q => c (nI_lt q (by omega)))
      obtain rfl : y = U := by omega
      exact ⟨sc, sz, wt, tof, ton, ss, sk, rfl, hI⟩
theorem ls_spec {wo : Int32} {kin : Nat → Int32} {pu pd : Nat → Nat} {U : Nat} {sc sz wt : Nat → Nat} {tof ton : Nat → Nat → Int32} (hU : U ≤ 4) (hpu : ∀ j, j < U → 1 ≤ pu j ∧ pu j ≤ 3) (hpd : ∀ j, j < U → 1 ≤ pd j ∧ pd j ≤ 3) :
    ∃ sc' sz' wt' tof' ton' ss' sk', f_Search_layStates sc sz wt tof ton U kin wo pu pd = (sc', sz', wt', tof', ton', U, ss', sk') ∧ lsI wo kin pu pd U sc' sz' wt' tof' ton' ss' sk' := by
  obtain ⟨sc', sz', wt', tof', ton', ss', sk', e, h⟩ := ls27 (wo := wo) (kin := kin) hU hpu hpd (U + 1) 0 (va_up sc 0 0) sz wt tof ton 1 1 (by omega) (Nat.zero_le _) ⟨fun u hu => absurd hu (Nat.not_lt_zero _), rfl, rfl, fun u own hu => absurd hu (Nat.not_lt_zero _), fun s hs => (by rw [show s = 0 by omega]; exact vu_self)⟩
  refine ⟨sc', sz', wt', tof', ton', ss', sk', ?_, h⟩
  unfold f_Search_layStates
  rw [e]
theorem uOff_lt {md pu pd own n : Nat} (hmd : md ≤ 2) (hpd : 1 ≤ pd) (ho : own < uSz md pu pd) (h : uOff md pu pd own = some n) : n < uSz md pu pd := by
  unfold uOff at h
  unfold uSz at ho ⊢
  rcases (show md = 0 ∨ md = 1 ∨ md = 2 by omega) with q | q | q
  · subst q; cases h; exact Nat.zero_lt_one
  · subst q; cases h
  · subst q
    rw [iteF (show ¬ 2 = 0 by decide), iteF (show ¬ 2 = 1 by decide)] at h
    rw [iteT (show (2 : Nat) = 2 from rfl)] at ho ⊢
    by_cases c : own < pd
    · rw [if_pos c] at h; cases h; omega
    · rw [if_neg c] at h
      by_cases d : own - pd + 1 < pu
      · rw [if_pos d] at h; cases h
      · rw [if_neg d] at h; cases h; omega
theorem uOn_lt {md pu pd own n : Nat} (hmd : md ≤ 2) (ho : own < uSz md pu pd) (h : uOn md pu pd own = some n) : n < uSz md pu pd := by
  unfold uOn at h
  unfold uSz at ho ⊢
  rcases (show md = 0 ∨ md = 1 ∨ md = 2 by omega) with q | q | q
  · subst q; cases h
  · subst q; cases h; exact Nat.zero_lt_one
  · subst q
    rw [iteF (show ¬ 2 = 0 by decide), iteF (show ¬ 2 = 1 by decide)] at h
    rw [iteT (show (2 : Nat) = 2 from rfl)] at ho ⊢
    by_cases c : own < pd
    · rw [if_pos c] at h
      by_cases d : own = 0
      · rw [if_pos d] at h; cases h; omega
      · rw [if_neg d] at h; cases h
    · rw [if_neg c] at h
      by_cases d : own + 1 < pd + max pu 2
      · rw [if_pos d] at h; cases h; exact d
      · rw [if_neg d] at h; cases h; exact ho
theorem mv_eq {z : Nat → Nat} {U u n s : Nat} (hu : u < U) (hs : s < pwz z U) : nI s + uEnc (pwz z u) (digz z s u) (some n) = nI (numz z (va_up (digz z s) u n) U) := by
  have h := numz_upd (z := z) (d := digz z s) (u := u) (n := n) hu
  rw [numz_dig, Nat.mod_eq_of_lt hs] at h
  have h2 : nI (numz z (va_up (digz z s) u n) U) + nI (digz z s u * pwz z u) = nI s + nI (n * pwz z u) := by rw [nI_add, nI_add, h]
  show nI s + (nI (n * pwz z u) - nI (digz z s u * pwz z u)) = _
  grind
theorem mv_lt {z : Nat → Nat} {U u n s : Nat} (hu : u < U) (hz : ∀ v, v < U → 0 < z v) (hn : n < z u) : numz z (va_up (digz z s) u n) U < pwz z U := by
  refine numz_lt (fun v hv => ?_)
  by_cases q : v = u
  · subst q; rw [vu_self]; exact hn
  · rw [vu_ne q]; exact digz_lt (hz v hv)
