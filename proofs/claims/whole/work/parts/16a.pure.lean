def mvZ (z : Nat → Nat) (U : Nat) (f : Nat → Nat → Option Nat) (u s : Nat) : Option Nat := (f u (digz z s u)).map (fun n => numz z (va_up (digz z s) u n) U)
theorem mv_dig {z : Nat → Nat} {U u v n s : Nat} (hz : ∀ w, w < U → 0 < z w) (hn : n < z u) : ∀ w, w < U → digz z (numz z (va_up (digz z s) u n) U) w = va_up (digz z s) u n w := fun w hw => digz_num (fun w' hw' => by
  by_cases c : w' = u
  · rw [c, vu_self]; exact hn
  · rw [vu_ne c]; exact digz_lt (hz w' hw')) w hw
theorem mv_bind {z : Nat → Nat} {U : Nat} {f h : Nat → Nat → Option Nat} {u v s : Nat} (hz : ∀ w, w < U → 0 < z w) (huv : u ≠ v) (hu : u < U) (hv : v < U) (hf : ∀ own n, own < z u → f u own = some n → n < z u) (hh : ∀ own n, own < z v → h v own = some n → n < z v) : (mvZ z U f u s).bind (mvZ z U h v) = (mvZ z U h v s).bind (mvZ z U f u) := by
  have du := digz_lt (z := z) (s := s) (u := u) (hz u hu)
  have dv := digz_lt (z := z) (s := s) (u := v) (hz v hv)
  cases hfu : f u (digz z s u) with
  | none =>
    have e1 : mvZ z U f u s = none := by unfold mvZ; rw [hfu]; rfl
    rw [e1]
    cases hhv : h v (digz z s v) with
    | none =>
      have e2 : mvZ z U h v s = none := by unfold mvZ; rw [hhv]; rfl
      rw [e2]; rfl
    | some m =>
      have e2 : mvZ z U h v s = some (numz z (va_up (digz z s) v m) U) := by unfold mvZ; rw [hhv]; rfl
      rw [e2]
      show none = mvZ z U f u (numz z (va_up (digz z s) v m) U)
      unfold mvZ
      rw [mv_dig (v := u) hz (hh _ _ dv hhv) u hu, vu_ne huv, hfu]
      rfl
  | some n =>
    have e1 : mvZ z U f u s = some (numz z (va_up (digz z s) u n) U) := by unfold mvZ; rw [hfu]; rfl
    rw [e1]
    cases hhv : h v (digz z s v) with
    | none =>
      have e2 : mvZ z U h v s = none := by unfold mvZ; rw [hhv]; rfl
      rw [e2]
      show mvZ z U h v (numz z (va_up (digz z s) u n) U) = none
      unfold mvZ
      rw [mv_dig (v := v) hz (hf _ _ du hfu) v hv, vu_ne (fun e => huv e.symm), hhv]
      rfl
    | some m =>
      have e2 : mvZ z U h v s = some (numz z (va_up (digz z s) v m) U) := by unfold mvZ; rw [hhv]; rfl
      rw [e2]
      show mvZ z U h v (numz z (va_up (digz z s) u n) U) = mvZ z U f u (numz z (va_up (digz z s) v m) U)
      unfold mvZ
      rw [mv_dig (v := v) hz (hf _ _ du hfu) v hv, vu_ne (fun e => huv e.symm), hhv, mv_dig (v := u) hz (hh _ _ dv hhv) u hu, vu_ne huv, hfu]
      show some _ = some _
      refine congrArg some (numz_congr (fun w hw => ?_))
      by_cases cu : w = u
      · subst cu
        rw [vu_self, vu_ne huv, mv_dig (v := w) hz (hf _ _ du hfu) w hw, vu_self]
      · by_cases cv : w = v
        · subst cv
          rw [vu_self, vu_ne (fun e => cu e), mv_dig (v := w) hz (hh _ _ dv hhv) w hw, vu_self]
        · rw [vu_ne cv, vu_ne cu, mv_dig (v := w) hz (hf _ _ du hfu) w hw, mv_dig (v := w) hz (hh _ _ dv hhv) w hw, vu_ne cu, vu_ne cv]
theorem Tu_bind {f1 f2 g1 g2 : Nat → Option Nat} {g : Nat → Nat} {s : Nat} : Tu f1 f2 (Tu g1 g2 g) s = min (min (gO g ((f1 s).bind g1)) (gO g ((f1 s).bind g2))) (min (gO g ((f2 s).bind g1)) (gO g ((f2 s).bind g2))) := by
  unfold Tu
  rw [gO_min, gO_min, gO_bind, gO_bind, gO_bind, gO_bind]
section TB_
variable {wo : Int32} {kin : Nat → Int32} {pu pd : Nat → Nat} {U : Nat}
theorem Tu_comm (hpu : ∀ j, j < U → 1 ≤ pu j ∧ pu j ≤ 3) (hpd : ∀ j, j < U → 1 ≤ pd j ∧ pd j ≤ 3) {u v : Nat} (huv : u ≠ v) (hu : u < U) (hv : v < U) {g : Nat → Nat} : Tu (ofZ wo kin pu pd U u) (onZ wo kin pu pd U u) (Tu (ofZ wo kin pu pd U v) (onZ wo kin pu pd U v) g) = Tu (ofZ wo kin pu pd U v) (onZ wo kin pu pd U v) (Tu (ofZ wo kin pu pd U u) (onZ wo kin pu pd U u) g) := by
  funext s
  rw [Tu_bind, Tu_bind]
  have hz : ∀ w, w < U → 0 < zU wo kin pu pd w := fun w _ => zU_pos
  have lf : ∀ w, w < U → ∀ own n, own < zU wo kin pu pd w → (fun u own => uOff (uMd wo kin u) (pu u) (pd u) own) w own = some n → n < zU wo kin pu pd w := fun w hw own n ho h => uOff_lt uMd_lt (hpd w hw).1 ho h
  have ln : ∀ w, w < U → ∀ own n, own < zU wo kin pu pd w → (fun u own => uOn (uMd wo kin u) (pu u) (pd u) own) w own = some n → n < zU wo kin pu pd w := fun w hw own n ho h => uOn_lt uMd_lt ho h
  have k1 : (ofZ wo kin pu pd U u s).bind (ofZ wo kin pu pd U v) = (ofZ wo kin pu pd U v s).bind (ofZ wo kin pu pd U u) := mv_bind (f := fun u own => uOff (uMd wo kin u) (pu u) (pd u) own) (h := fun u own => uOff (uMd wo kin u) (pu u) (pd u) own) hz huv hu hv (lf u hu) (lf v hv)
  have k2 : (ofZ wo kin pu pd U u s).bind (onZ wo kin pu pd U v) = (onZ wo kin pu pd U v s).bind (ofZ wo kin pu pd U u) := mv_bind (f := fun u own => uOff (uMd wo kin u) (pu u) (pd u) own) (h := fun u own => uOn (uMd wo kin u) (pu u) (pd u) own) hz huv hu hv (lf u hu) (ln v hv)
  have k3 : (onZ wo kin pu pd U u s).bind (ofZ wo kin pu pd U v) = (ofZ wo kin pu pd U v s).bind (onZ wo kin pu pd U u) := mv_bind (f := fun u own => uOn (uMd wo kin u) (pu u) (pd u) own) (h := fun u own => uOff (uMd wo kin u) (pu u) (pd u) own) hz huv hu hv (ln u hu) (lf v hv)
  have k4 : (onZ wo kin pu pd U u s).bind (onZ wo kin pu pd U v) = (onZ wo kin pu pd U v s).bind (onZ wo kin pu pd U u) := mv_bind (f := fun u own => uOn (uMd wo kin u) (pu u) (pd u) own) (h := fun u own => uOn (uMd wo kin u) (pu u) (pd u) own) hz huv hu hv (ln u hu) (ln v hv)
  rw [k1, k2, k3, k4]
  omega
def TB (of_ on_ : Nat → Nat → Option Nat) : Nat → (Nat → Nat) → Nat → Nat
  | 0, g => g
  | k + 1, g => Tu (of_ k) (on_ k) (TB of_ on_ k g)
theorem TT_Tu (hpu : ∀ j, j < U → 1 ≤ pu j ∧ pu j ≤ 3) (hpd : ∀ j, j < U → 1 ≤ pd j ∧ pd j ≤ 3) {u : Nat} (hu : u < U) : ∀ k, k ≤ u → ∀ g : Nat → Nat, Tu (ofZ wo kin pu pd U u) (onZ wo kin pu pd U u) (TT (ofZ wo kin pu pd U) (onZ wo kin pu pd U) k g) = TT (ofZ wo kin pu pd U) (onZ wo kin pu pd U) k (Tu (ofZ wo kin pu pd U u) (onZ wo kin pu pd U u) g) := by
  intro k
  induction k with
  | zero => intro _ g; rfl
  | succ k ih =>
    intro hk g
    show Tu _ _ (TT _ _ k (Tu (ofZ wo kin pu pd U k) (onZ wo kin pu pd U k) g)) = TT _ _ k (Tu (ofZ wo kin pu pd U k) (onZ wo kin pu pd U k) (Tu (ofZ wo kin pu pd U u) (onZ wo kin pu pd U u) g))
    rw [ih (by omega), Tu_comm hpu hpd (u := u) (v := k) (by omega) hu (by omega)]
theorem TB_TT (hpu : ∀ j, j < U → 1 ≤ pu j ∧ pu j ≤ 3) (hpd : ∀ j, j < U → 1 ≤ pd j ∧ pd j ≤ 3) : ∀ k, k ≤ U → ∀ g : Nat → Nat, TB (ofZ wo kin pu pd U) (onZ wo kin pu pd U) k g = TT (ofZ wo kin pu pd U) (onZ wo kin pu pd U) k g := by
  intro k
  induction k with
  | zero => intro _ g; rfl
  | succ k ih =>
    intro hk g
    show Tu _ _ (TB (ofZ wo kin pu pd U) (onZ wo kin pu pd U) k g) = TT _ _ k (Tu (ofZ wo kin pu pd U k) (onZ wo kin pu pd U k) g)
    rw [ih (by omega), TT_Tu hpu hpd (by omega) k (Nat.le_refl _)]
end TB_
theorem L51_spec {tof ton : Nat → Nat → Int32} {pb ps u n4 n5 ss : Nat} {w3 : Nat → Nat → Int64} {B : Nat → Nat} {of_ on_ : Nat → Option Nat} (hne : pb ≠ ps) (hB : rp (w3 pb) B ss)
    (hto : ∀ k, k < ss → trO k ss (tof u ((k / n4) % n5)) (of_ k)) (htn : ∀ k, k < ss → trO k ss (ton u ((k / n4) % n5)) (on_ k)) : ∀ k, k ≤ ss →
    (∀ i, i ≠ ps → f_Search_turnAllBack_L51 tof ton pb ps u u n4 n5 w3 k i = w3 i) ∧ ∀ s, s < k → f_Search_turnAllBack_L51 tof ton pb ps u u n4 n5 w3 k ps s = lN (Tu of_ on_ B s) ∧ Tu of_ on_ B s ≤ FARn := by
  intro k
  induction k with
  | zero => intro _; exact ⟨fun _ _ => rfl, fun s h => absurd h (Nat.not_lt_zero _)⟩
  | succ k ih =>
    intro hk
    obtain ⟨i1, i2⟩ := ih (by omega)
    have e : f_Search_turnAllBack_L51 tof ton pb ps u u n4 n5 w3 (k + 1) = f_Search_turnAllBack_L51s tof ton pb ps u u n4 n5 k (f_Search_turnAllBack_L51 tof ton pb ps u u n4 n5 w3 k) := rfl
    rw [e]
    have hpb : f_Search_turnAllBack_L51 tof ton pb ps u u n4 n5 w3 k pb = w3 pb := i1 pb hne
    generalize f_Search_turnAllBack_L51 tof ton pb ps u u n4 n5 w3 k = w at i1 i2 hpb
    unfold f_Search_turnAllBack_L51s
    refine ⟨fun i hi => by rw [vu_ne hi]; exact i1 i hi, fun s hs => ?_⟩
    rw [vu_self]
    by_cases c : s = k
    · subst c
      rw [pk_uLs, hpb]
      generalize hto s (by omega) = h1
      generalize htn s (by omega) = h2
      unfold Tu
      have gn : gO B none = FARn := rfl
      have gs : ∀ t, gO B (some t) = B t := fun t => rfl
      rcases h1 with ⟨a1, a2⟩ | ⟨t, ht, a2, a1, a3⟩ <;> rcases h2 with ⟨b1, b2⟩ | ⟨r, hr, b2, b1, b3⟩
      · rw [if_pos b1, if_pos a1, a2, b2, gn, Nat.min_self]
        exact ⟨rfl, Nat.le_refl _⟩
      · rw [if_neg b1, if_pos a1, a2, b2, gn, gs, b3, (hB r hr).1]
        have hbr := (hB r hr).2
        rw [Nat.min_eq_right hbr]
        refine ⟨?_, hbr⟩
        by_cases d : B r < FARn
        · rw [if_pos ((farlt hbr).mpr d)]
        · rw [if_neg (fun z => d ((farlt hbr).mp z)), show B r = FARn by omega]; rfl
      · rw [if_pos b1, if_neg a1, a2, b2, gn, gs, a3, (hB t ht).1, Nat.min_eq_left (hB t ht).2]
        exact ⟨rfl, (hB t ht).2⟩
      · rw [if_neg b1, if_neg a1, a2, b2, gs, gs, a3, b3, (hB t ht).1, (hB r hr).1]
        have h3 := (hB t ht).2
        have h4 := (hB r hr).2
        refine ⟨?_, by omega⟩
        by_cases d : B r < B t
        · rw [if_pos ((lN_ltF h4 h3).mpr d), Nat.min_eq_right (by omega)]
        · rw [if_neg (fun z => d ((lN_ltF h4 h3).mp z)), Nat.min_eq_left (by omega)]
    · rw [pk_uLn c]
      exact i2 s (by omega)
theorem tback_spec {sz wt : Nat → Nat} {tof ton : Nat → Nat → Int32} {w3 : Nat → Nat → Int64} {pb ps su ss : Nat} {B : Nat → Nat} {of_ on_ : Nat → Nat → Option Nat} (hne : pb ≠ ps) (hB : rp (w3 pb) B ss)
    (hto : ∀ u k, u < su → k < ss → trO k ss (tof u ((k / max (wt u) 1) % max (sz u) 1)) (of_ u k)) (htn : ∀ u k, u < su → k < ss → trO k ss (ton u ((k / max (wt u) 1) % max (sz u) 1)) (on_ u k)) : ∀ k, k ≤ su →
    rp ((f_Search_turnAllBack_L2 sz wt tof ton ss w3 pb ps k).1 (f_Search_turnAllBack_L2 sz wt tof ton ss w3 pb ps k).2.1) (TB of_ on_ k B) ss ∧ swp pb ps (f_Search_turnAllBack_L2 sz wt tof ton ss w3 pb ps k).2.1 (f_Search_turnAllBack_L2 sz wt tof ton ss w3 pb ps k).2.2 ∧ (∀ i, i ≠ pb → i ≠ ps → (f_Search_turnAllBack_L2 sz wt tof ton ss w3 pb ps k).1 i = w3 i) := by
  intro k
  induction k with
  | zero => intro _; exact ⟨hB, Or.inl ⟨rfl, rfl⟩, fun _ _ _ => rfl⟩
  | succ k ih =>
    intro hk
    obtain ⟨h1, h2, h3⟩ := ih (by omega)
    have e : f_Search_turnAllBack_L2 sz wt tof ton ss w3 pb ps (k + 1) = f_Search_turnAllBack_L2s sz wt tof ton ss k (f_Search_turnAllBack_L2 sz wt tof ton ss w3 pb ps k).1 (f_Search_turnAllBack_L2 sz wt tof ton ss w3 pb ps k).2.1 (f_Search_turnAllBack_L2 sz wt tof ton ss w3 pb ps k).2.2 := rfl
    rw [e]
    generalize f_Search_turnAllBack_L2 sz wt tof ton ss w3 pb ps k = q at h1 h2 h3
    have hnq : q.2.1 ≠ q.2.2 := by
      unfold swp at h2
      omega
    obtain ⟨l1, l2⟩ := L51_spec (tof := tof) (ton := ton) (u := k) (n4 := max (wt k) 1) (n5 := max (sz k) 1) (of_ := of_ k) (on_ := on_ k) hnq h1 (fun j hj => hto k j (by omega) hj) (fun j hj => htn k j (by omega) hj) ss (Nat.le_refl _)
    unfold f_Search_turnAllBack_L2s
    refine ⟨fun s hs => l2 s hs, swp_tr h2 (Or.inr ⟨rfl, rfl⟩), fun i hi hj => ?_⟩
    dsimp only
    rw [l1 i (by unfold swp at h2; omega)]
    exact h3 i hi hj
