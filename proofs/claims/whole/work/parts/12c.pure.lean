def zf (v : Nat) : Prop := v = 0 ∨ v = FARn
theorem zf_gO {g : Nat → Nat} (h : ∀ t, zf (g t)) (o : Option Nat) : zf (gO g o) := by
  cases o with
  | none => exact Or.inr rfl
  | some t => exact h t
theorem zf_min {a b : Nat} (ha : zf a) (hb : zf b) : zf (min a b) := by
  rcases Nat.le_total a b with q | q
  · rw [Nat.min_eq_left q]; exact ha
  · rw [Nat.min_eq_right q]; exact hb
theorem zf_TT {of_ on_ : Nat → Nat → Option Nat} : ∀ (k : Nat) (g : Nat → Nat), (∀ t, zf (g t)) → ∀ s, zf (TT of_ on_ k g s) := by
  intro k
  induction k with
  | zero => intro g h s; exact h s
  | succ k ih => intro g h s; exact ih _ (fun t => zf_min (zf_gO h _) (zf_gO h _)) s
theorem TT_le {of_ on_ : Nat → Nat → Option Nat} : ∀ (k : Nat) (g : Nat → Nat), (∀ t, g t ≤ FARn) → ∀ s, TT of_ on_ k g s ≤ FARn := by
  intro k
  induction k with
  | zero => intro g h s; exact h s
  | succ k ih => intro g h s; exact ih _ (fun t => Nat.le_trans (Nat.min_le_left _ _) (gO_le h)) s
theorem mn_only {R : Nat → Nat} {n t : Nat} (ht : t < n) (hR : R t ≤ FARn) : mnF (fun j => fad (R j) (if j = t then 0 else FARn)) n = R t := by
  refine mnF_eq hR (fun j hj => ?_) (Or.inr ⟨t, ht, ?_⟩)
  · by_cases q : j = t
    · rw [if_pos q, q, fad_r0 hR]; exact Nat.le_refl _
    · rw [if_neg q, fad_far2]; exact hR
  · rw [if_pos rfl, fad_r0 hR]
theorem turn_bd {A R : Nat → Nat} {of_ on_ : Nat → Nat → Option Nat} {ss k B : Nat} (hR : ∀ t, t < ss → R t ≤ FARn) (hA : ∀ s, s < ss → A s ≤ FARn) (h : ∀ g : Nat → Nat, mnF (fun t => fad (R t) (g t)) ss = mnF (fun s => fad (A s) (TT of_ on_ k g s)) ss) (hB : ∀ s, s < ss → A s < FARn → A s ≤ B) : ∀ t, t < ss → R t < FARn → R t ≤ B := by
  intro t ht hf
  have e := h (fun j => if j = t then 0 else FARn)
  rw [mn_only ht (hR t ht)] at e
  rcases mnF_at (f := fun s => fad (A s) (TT of_ on_ k (fun j => if j = t then 0 else FARn) s)) ss with q | ⟨i, hi, q⟩
  · rw [q] at e; omega
  · rw [q] at e
    have hz := zf_TT (of_ := of_) (on_ := on_) k (fun j => if j = t then 0 else FARn) (fun j => by
      by_cases c : j = t
      · rw [if_pos c]; exact Or.inl rfl
      · rw [if_neg c]; exact Or.inr rfl) i
    rcases hz with z | z
    · rw [z, fad_r0 (hA i hi)] at e
      rw [e] at hf ⊢
      exact hB i hi hf
    · rw [z, fad_far2] at e; omega
def WW (of_ on_ : Nat → Nat → Option Nat) (sc : Nat → Nat) (U : Nat) (P : Nat → Nat → Nat) : Nat → (Nat → Nat) → Nat → Nat
  | 0, g => g
  | n + 1, g => WW of_ on_ sc U P n (TT of_ on_ U (fun s => fad (P n (sc s)) (g s)))
def A0 (s : Nat) : Nat := if s = 0 then 0 else FARn
theorem mn_A0 {g : Nat → Nat} {n : Nat} (hn : 0 < n) (hg : g 0 ≤ FARn) : mnF (fun s => fad (A0 s) (g s)) n = g 0 := by
  refine mnF_eq hg (fun j _ => ?_) (Or.inr ⟨0, hn, ?_⟩)
  · by_cases q : j = 0
    · subst q; show g 0 ≤ fad 0 (g 0); rw [fad_0 hg]; exact Nat.le_refl _
    · unfold A0; rw [if_neg q, fad_far]; exact hg
  · exact fad_0 hg
theorem WW_le {of_ on_ : Nat → Nat → Option Nat} {sc : Nat → Nat} {U : Nat} {P : Nat → Nat → Nat} : ∀ (n : Nat) (g : Nat → Nat), (∀ t, g t ≤ FARn) → ∀ s, WW of_ on_ sc U P n g s ≤ FARn := by
  intro n
  induction n with
  | zero => intro g h s; exact h s
  | succ n ih => intro g h s; exact ih _ (fun t => TT_le U _ (fun _ => fad_le) t) s
theorem walk_spec {con cst : Nat → Int32} {cpa : Nat → Int64} {sc sz wt : Nat → Nat} {tof ton : Nat → Nat → Int32} {w3 : Nat → Nat → Int64} {pa ps su ss sk U : Nat} {res : Int32} {dem hig pri flo sro sco : Nat → Int32} {ord : Nat → Nat} {of_ on_ : Nat → Nat → Option Nat} {P : Nat → Nat → Nat} {N : Nat} (hN : N ≤ 6) (hne : pa ≠ ps) (hs0 : 0 < ss)
    (hto : ∀ u k, u < su → k < ss → trO k ss (tof u ((k / max (wt u) 1) % max (sz u) 1)) (of_ u k)) (htn : ∀ u k, u < su → k < ss → trO k ss (ton u ((k / max (wt u) 1) % max (sz u) 1)) (on_ u k))
    (hC : ∀ (cp : Nat → Int64) k s, k < N → s < ss → f_Search_costCombos con cst cp sk U res dem hig pri ord flo sro sco k (sc s) = lN (P k (sc s)) ∧ P k (sc s) ≤ FARn ∧ (P k (sc s) < FARn → P k (sc s) ≤ 1099511627776)) : ∀ n, n ≤ N →
    ∃ R, rp ((f_Search_walk con cst cpa sc sz wt tof ton w3 pa ps su ss sk U res dem hig pri ord flo sro sco n).2.1 (f_Search_walk con cst cpa sc sz wt tof ton w3 pa ps su ss sk U res dem hig pri ord flo sro sco n).2.2.1) R ss ∧
      (((f_Search_walk con cst cpa sc sz wt tof ton w3 pa ps su ss sk U res dem hig pri ord flo sro sco n).2.2.1 = pa ∧ (f_Search_walk con cst cpa sc sz wt tof ton w3 pa ps su ss sk U res dem hig pri ord flo sro sco n).2.2.2 = ps) ∨ ((f_Search_walk con cst cpa sc sz wt tof ton w3 pa ps su ss sk U res dem hig pri ord flo sro sco n).2.2.1 = ps ∧ (f_Search_walk con cst cpa sc sz wt tof ton w3 pa ps su ss sk U res dem hig pri ord flo sro sco n).2.2.2 = pa)) ∧
      (∀ s, s < ss → R s < FARn → R s ≤ n * 1099511627776) ∧ ∀ g : Nat → Nat, mnF (fun t => fad (R t) (g t)) ss = mnF (fun s => fad (A0 s) (WW of_ on_ sc su P n g s)) ss := by
  intro n
  unfold f_Search_walk
  dsimp only
  obtain ⟨f1, f2⟩ := fill_rp (w3 := w3) (ri := pa) (ss := ss) (v := (1152921504606846976 : Int64)) (V := FARn) rfl (Nat.le_refl _)
  generalize f_Search_fillStates w3 ss (1152921504606846976 : Int64) pa = q1 at f1 f2
  induction n with
  | zero =>
    intro _
    refine ⟨A0, fun t ht => ?_, Or.inl ⟨rfl, rfl⟩, fun s _ hf => ?_, fun g => rfl⟩
    · show va_up q1 pa (vp_updL (q1 pa) 0 (0 : Int64)) pa t = lN (A0 t) ∧ A0 t ≤ FARn
      rw [vu_self]
      by_cases c : t = 0
      · subst c; rw [pk_uLs]; exact ⟨rfl, Nat.zero_le _⟩
      · rw [pk_uLn c]; unfold A0; rw [if_neg c]; exact f1 t ht
    · unfold A0 at hf ⊢
      by_cases c : s = 0
      · rw [if_pos c]; exact Nat.zero_le _
      · rw [if_neg c] at hf; omega
  | succ n ih =>
    intro hn
    obtain ⟨R, h1, h2, h3, h4⟩ := ih (by omega)
    generalize hq : f_Search_walk_L20 con cst sc sz wt tof ton su ss sk U res dem hig pri ord flo sro sco cpa (va_up q1 pa (vp_updL (q1 pa) 0 (0 : Int64))) pa ps n = q at h1 h2
    have e : f_Search_walk_L20 con cst sc sz wt tof ton su ss sk U res dem hig pri ord flo sro sco cpa (va_up q1 pa (vp_updL (q1 pa) 0 (0 : Int64))) pa ps (n + 1) = f_Search_walk_L20s con cst sc sz wt tof ton su ss sk U res dem hig pri ord flo sro sco n q.1 q.2.1 q.2.2.1 q.2.2.2 := by
      rw [← hq]; rfl
    have hnq : q.2.2.1 ≠ q.2.2.2 := by
      rcases h2 with ⟨a, b⟩ | ⟨a, b⟩ <;> rw [a, b]
      · exact hne
      · exact fun z => hne z.symm
    obtain ⟨T, t1, t2, t3, t4⟩ := turn_spec (sz := sz) (wt := wt) (tof := tof) (ton := ton) (of_ := of_) (on_ := on_) hnq h1 hto htn su (Nat.le_refl _)
    have tb := turn_bd (fun t ht => (t1 t ht).2) (fun s hs => (h1 s hs).2) t4 h3
    generalize hr : f_Search_turnAll_L2 sz wt tof ton ss q.2.1 q.2.2.1 q.2.2.2 su = r at t1 t2 t3
    have hcc := hC q.1 n
    obtain ⟨b1, b2⟩ := addP_rp (cpa := f_Search_costCombos con cst q.1 sk U res dem hig pri ord flo sro sco n) (sc := sc) (P := P n) t1 (fun s hs => ⟨(hcc s (by omega) hs).1, (hcc s (by omega) hs).2.1⟩) (fun s hs ha hp => by
      have x1 := tb s hs ha
      have x2 := (hcc s (by omega) hs).2.2 hp
      have x3 : n * 1099511627776 ≤ 5 * 1099511627776 := Nat.mul_le_mul_right _ (by omega)
      unfold FARn
      omega)
    have e2 : f_Search_walk_L20s con cst sc sz wt tof ton su ss sk U res dem hig pri ord flo sro sco n q.1 q.2.1 q.2.2.1 q.2.2.2 = (f_Search_costCombos con cst q.1 sk U res dem hig pri ord flo sro sco n, f_Search_addParts (f_Search_costCombos con cst q.1 sk U res dem hig pri ord flo sro sco n) sc r.1 ss r.2.1, r.2.1, r.2.2) := by
      rw [← hr]; rfl
    rw [e, e2]
    refine ⟨_, b1, ?_, fun s hs hf => ?_, fun g => ?_⟩
    · rcases h2 with ⟨a, b⟩ | ⟨a, b⟩ <;> rcases t2 with ⟨c, d⟩ | ⟨c, d⟩
      · exact Or.inl ⟨c.trans a, d.trans b⟩
      · exact Or.inr ⟨c.trans b, d.trans a⟩
      · exact Or.inr ⟨c.trans a, d.trans b⟩
      · exact Or.inl ⟨c.trans b, d.trans a⟩
    · have x0 : T s < FARn ∧ P n (sc s) < FARn := by
        unfold fad at hf
        exact ⟨by omega, by omega⟩
      have x1 := tb s hs x0.1
      have x2 := (hcc s (by omega) hs).2.2 x0.2
      rw [Nat.add_mul, Nat.one_mul]
      unfold fad
      omega
    · show mnF (fun t => fad (fad (T t) (P n (sc t))) (g t)) ss = _
      rw [mnF_congr (fun t _ => fad_assoc), t4 (fun t => fad (P n (sc t)) (g t)), h4]
      rfl
theorem L22_spec {w3 : Nat → Nat → Int64} {pa ss : Nat} {R : Nat → Nat} (h : rp (w3 pa) R ss) : ∀ k, k ≤ ss → f_Search_findBest_L22 w3 pa (1152921504606846976 : Int64) k = lN (mnF R k) := by
  intro k
  induction k with
  | zero => intro _; rfl
  | succ k ih =>
    intro hk
    show f_Search_findBest_L22s w3 pa k (f_Search_findBest_L22 w3 pa (1152921504606846976 : Int64) k) = _
    unfold f_Search_findBest_L22s
    have hr := h k (by omega)
    rw [ih (by omega), hr.1]
    show _ = lN (min (mnF R k) (R k))
    by_cases c : R k < mnF R k
    · rw [if_pos ((lN_ltF hr.2 (mnF_far k)).mpr c), Nat.min_eq_right (by omega)]
    · rw [if_neg (fun z => c ((lN_ltF hr.2 (mnF_far k)).mp z)), Nat.min_eq_left (by omega)]
def encB (D : Nat) : Int64 := if D < FARn then lN D else (-1000000 : Int64)
def ofZ (wo : Int32) (kin : Nat → Int32) (pu pd : Nat → Nat) (U u s : Nat) : Option Nat := (uOff (uMd wo kin u) (pu u) (pd u) (digz (zU wo kin pu pd) s u)).map (fun n => numz (zU wo kin pu pd) (va_up (digz (zU wo kin pu pd) s) u n) U)
def onZ (wo : Int32) (kin : Nat → Int32) (pu pd : Nat → Nat) (U u s : Nat) : Option Nat := (uOn (uMd wo kin u) (pu u) (pd u) (digz (zU wo kin pu pd) s u)).map (fun n => numz (zU wo kin pu pd) (va_up (digz (zU wo kin pu pd) s) u n) U)
theorem nI_no {k t : Nat} (hk : k < 2000) (ht : t < 2000) (h : nI k + (-1000000 : Int32) = nI t) : False := by
  have e : nI k = nI t + nI 1000000 := by
    rw [← h]
    show nI k = nI k + (-1000000 : Int32) + (1000000 : Int32)
    rw [Int32.add_assoc, show (-1000000 : Int32) + 1000000 = 0 by decide, Int32.add_zero]
  rw [nI_add] at e
  have := (nI_eq (by omega) (by omega)).mp e
  omega
section LSI2
variable {wo : Int32} {kin : Nat → Int32} {pu pd : Nat → Nat} {U : Nat} {sc sz wt : Nat → Nat} {tof ton : Nat → Nat → Int32} {ss sk : Nat}
theorem tr_of (h : lsI wo kin pu pd U sc sz wt tof ton ss sk) (hss : ss ≤ 1296) (hpd : ∀ j, j < U → 1 ≤ pd j) : ∀ u k, u < U → k < ss → trO k ss (tof u ((k / max (wt u) 1) % max (sz u) 1)) (ofZ wo kin pu pd U u k) := fun u k hu hk => by
  rw [lsI_own h hu, (h.2.2.2.1 u (digz (zU wo kin pu pd) k u) hu (digz_lt zU_pos)).1]
  unfold ofZ
  cases e : uOff (uMd wo kin u) (pu u) (pd u) (digz (zU wo kin pu pd) k u) with
  | none => exact Or.inl ⟨rfl, rfl⟩
  | some n =>
    have hlt : n < zU wo kin pu pd u := uOff_lt uMd_lt (hpd u hu) (show digz (zU wo kin pu pd) k u < zU wo kin pu pd u from digz_lt zU_pos) e
    have hk2 := hk
    rw [h.2.1] at hk2
    have hm := mv_eq (z := zU wo kin pu pd) (n := n) hu hk2
    have hl := mv_lt (z := zU wo kin pu pd) (s := k) hu (fun v _ => zU_pos) hlt
    rw [← h.2.1] at hl
    exact Or.inr ⟨_, hl, rfl, fun z => nI_no (by omega) (by omega) (z ▸ hm), by rw [hm, nI_clamp (by omega)]⟩
theorem tr_on (h : lsI wo kin pu pd U sc sz wt tof ton ss sk) (hss : ss ≤ 1296) : ∀ u k, u < U → k < ss → trO k ss (ton u ((k / max (wt u) 1) % max (sz u) 1)) (onZ wo kin pu pd U u k) := fun u k hu hk => by
  rw [lsI_own h hu, (h.2.2.2.1 u (digz (zU wo kin pu pd) k u) hu (digz_lt zU_pos)).2]
  unfold onZ
  cases e : uOn (uMd wo kin u) (pu u) (pd u) (digz (zU wo kin pu pd) k u) with
  | none => exact Or.inl ⟨rfl, rfl⟩
  | some n =>
    have hlt : n < zU wo kin pu pd u := uOn_lt uMd_lt (show digz (zU wo kin pu pd) k u < zU wo kin pu pd u from digz_lt zU_pos) e
    have hk2 := hk
    rw [h.2.1] at hk2
    have hm := mv_eq (z := zU wo kin pu pd) (n := n) hu hk2
    have hl := mv_lt (z := zU wo kin pu pd) (s := k) hu (fun v _ => zU_pos) hlt
    rw [← h.2.1] at hl
    exact Or.inr ⟨_, hl, rfl, fun z => nI_no (by omega) (by omega) (z ▸ hm), by rw [hm, nI_clamp (by omega)]⟩
end LSI2
def scZ (wo : Int32) (kin : Nat → Int32) (pu pd : Nat → Nat) (U s : Nat) : Nat := scS (zU wo kin pu pd) (aU wo kin pu pd) U s
def DZ (wo : Int32) (kin : Nat → Int32) (pu pd : Nat → Nat) (U : Nat) (P : Nat → Nat → Nat) (H : Nat) : Nat := WW (ofZ wo kin pu pd U) (onZ wo kin pu pd U) (scZ wo kin pu pd U) U P H (fun _ => 0) 0
theorem TT_congr {of_ on_ : Nat → Nat → Option Nat} {ss : Nat} (ho : ∀ u s t, s < ss → of_ u s = some t → t < ss) (hn : ∀ u s t, s < ss → on_ u s = some t → t < ss) : ∀ (k : Nat) (g g' : Nat → Nat), (∀ s, s < ss → g s = g' s) → ∀ s, s < ss → TT of_ on_ k g s = TT of_ on_ k g' s := by
  intro k
  induction k with
  | zero => intro g g' h s hs; exact h s hs
  | succ k ih =>
    intro g g' h s hs
    refine ih _ _ (fun t ht => ?_) s hs
    show min (gO g (of_ k t)) (gO g (on_ k t)) = min (gO g' (of_ k t)) (gO g' (on_ k t))
    have e1 : gO g (of_ k t) = gO g' (of_ k t) := by
      cases e : of_ k t with
      | none => rfl
      | some x => exact h x (ho k t x ht e)
    have e2 : gO g (on_ k t) = gO g' (on_ k t) := by
      cases e : on_ k t with
      | none => rfl
      | some x => exact h x (hn k t x ht e)
    rw [e1, e2]
