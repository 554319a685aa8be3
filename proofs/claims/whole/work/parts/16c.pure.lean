def CA (sc T B : Nat → Nat) (k c : Nat) : Nat := mnF (fun s => if sc s = c then fad (T s) (B s) else FARn) k
theorem L34_spec {sc : Nat → Nat} {w3 : Nat → Nat → Int64} {pa pb ss : Nat} {T B : Nat → Nat} {car : Nat → Int64} (hT : rp (w3 pa) T ss) (hB : rp (w3 pb) B ss) (hc : ∀ c, c < 81 → car c = lN FARn) : ∀ k, k ≤ ss → ∀ c, c < 81 → f_Search_lookAround_L34 sc w3 pa pb car k c = lN (CA sc T B k c) := by
  intro k
  induction k with
  | zero => intro _ c h; exact hc c h
  | succ k ih =>
    intro hk c h
    have i := ih (by omega)
    show f_Search_lookAround_L34s sc w3 pa pb k (f_Search_lookAround_L34 sc w3 pa pb car k) c = lN (min (CA sc T B k c) (if sc k = c then fad (T k) (B k) else FARn))
    unfold f_Search_lookAround_L34s
    have hle : CA sc T B k c ≤ FARn := mnF_far k
    by_cases d : c = sc k
    · subst d
      rw [pk_uLs, i (sc k) h, iteT (show sc k = sc k from rfl), (hT k (by omega)).1, (hB k (by omega)).1, lN_add]
      have h1 := (hT k (by omega)).2
      have h2 := (hB k (by omega)).2
      unfold f_Math_minJ fad
      generalize CA sc T B k (sc k) = v at hle
      by_cases z : T k + B k < v
      · rw [if_pos ((pk_lLT (by unfold FARn at *; omega) (by unfold FARn at *; omega)).mpr z)]
        congr 1
        omega
      · rw [if_neg (fun y => z ((pk_lLT (by unfold FARn at *; omega) (by unfold FARn at *; omega)).mp y))]
        congr 1
        omega
    · rw [pk_uLn d, i c h, if_neg (fun e => d e.symm)]
      congr 1
      omega
theorem CA_mn {sc T B Q : Nat → Nat} {ss N : Nat} (hs : ∀ s, s < ss → sc s < N) : mnF (fun c => fad (CA sc T B ss c) (Q c)) N = mnF (fun s => fad (T s) (fad (Q (sc s)) (B s))) ss := by
  have key : ∀ s, fad (fad (T s) (B s)) (Q (sc s)) = fad (T s) (fad (Q (sc s)) (B s)) := fun s => by rw [fad_assoc]; congr 1; exact fad_comm
  refine mnF_eq (mnF_far _) (fun c hc => ?_) ?_
  · rcases mnF_at (f := fun s => if sc s = c then fad (T s) (B s) else FARn) ss with z | ⟨s, hs2, z⟩
    · show _ ≤ fad (CA sc T B ss c) (Q c)
      unfold CA
      rw [z, fad_far]
      exact mnF_far _
    · show _ ≤ fad (CA sc T B ss c) (Q c)
      unfold CA
      rw [z]
      by_cases d : sc s = c
      · rw [if_pos d, ← d, key s]
        exact mnF_le (f := fun s => fad (T s) (fad (Q (sc s)) (B s))) hs2
      · rw [if_neg d, fad_far]
        exact mnF_far _
  · rcases mnF_at (f := fun s => fad (T s) (fad (Q (sc s)) (B s))) ss with z | ⟨s, hs2, z⟩
    · exact Or.inl z
    · refine Or.inr ⟨sc s, hs s hs2, ?_⟩
      refine Nat.le_antisymm ?_ ?_
      · rw [z]
        have h1 : CA sc T B ss (sc s) ≤ fad (T s) (B s) := by
          have := mnF_le (f := fun t => if sc t = sc s then fad (T t) (B t) else FARn) hs2
          rw [if_pos rfl] at this
          exact this
        show fad (CA sc T B ss (sc s)) (Q (sc s)) ≤ fad (T s) (fad (Q (sc s)) (B s))
        rw [← key s]
        exact fad_mono h1
      · show _ ≤ fad (CA sc T B ss (sc s)) (Q (sc s))
        rcases mnF_at (f := fun t => if sc t = sc s then fad (T t) (B t) else FARn) ss with y | ⟨t, ht, y⟩
        · unfold CA
          rw [y, fad_far]
          exact mnF_far _
        · unfold CA
          rw [y]
          by_cases d : sc t = sc s
          · rw [if_pos d, ← d, key t]
            exact mnF_le (f := fun s => fad (T s) (fad (Q (sc s)) (B s))) ht
          · rw [if_neg d, fad_far]
            exact mnF_far _
theorem WW_P {of_ on_ : Nat → Nat → Option Nat} {sc : Nat → Nat} {U : Nat} {P Q : Nat → Nat → Nat} : ∀ n (g : Nat → Nat), (∀ h, h < n → P h = Q h) → WW of_ on_ sc U P n g = WW of_ on_ sc U Q n g := by
  intro n
  induction n with
  | zero => intro g _; rfl
  | succ n ih =>
    intro g h
    show WW of_ on_ sc U P n (TT of_ on_ U (fun s => fad (P n (sc s)) (g s))) = WW of_ on_ sc U Q n (TT of_ on_ U (fun s => fad (Q n (sc s)) (g s)))
    rw [h n (by omega), ih _ (fun k hk => h k (by omega))]
theorem SV_P {of_ on_ : Nat → Nat → Option Nat} {sc : Nat → Nat} {U H : Nat} {P Q : Nat → Nat → Nat} : ∀ r, r ≤ H → (∀ h, H - r ≤ h → h < H → P h = Q h) → SV of_ on_ sc U P H r = SV of_ on_ sc U Q H r := by
  intro r
  induction r with
  | zero => intro _ _; rfl
  | succ r ih =>
    intro hr h
    show TT of_ on_ U (fun s => fad (P (H - (r + 1)) (sc s)) (SV of_ on_ sc U P H r s)) = TT of_ on_ U (fun s => fad (Q (H - (r + 1)) (sc s)) (SV of_ on_ sc U Q H r s))
    rw [h (H - (r + 1)) (Nat.le_refl _) (by omega), ih (by omega) (fun k h1 h2 => h k (by omega) h2)]
section LA
variable {con cst : Nat → Int32} {cpa car : Nat → Int64} {sc sz wt : Nat → Nat} {tof ton : Nat → Nat → Int32} {w3 : Nat → Nat → Int64} {pa pb ps H U : Nat} {res : Int32} {dem kin hig pri flo sro sco : Nat → Int32} {ord : Nat → Nat} {pu pd : Nat → Nat} {P : Nat → Nat → Nat}
def perm3 (a b c : Nat) : Prop := a < 3 ∧ b < 3 ∧ c < 3 ∧ a ≠ b ∧ a ≠ c ∧ b ≠ c
theorem look_spec {n : Nat} {R : (Nat → Int64) × (Nat → Int64) × (Nat → Nat) × (Nat → Nat) × (Nat → Nat) × (Nat → Nat → Int32) × (Nat → Nat → Int32) × (Nat → Nat → Int64) × Nat × Nat × Nat × Nat × Nat × Nat} (hU : U ≤ 4) (hH : H ≤ 6) (hn : n < H) (hpu : ∀ j, j < U → 1 ≤ pu j ∧ pu j ≤ 3) (hpd : ∀ j, j < U → 1 ≤ pd j ∧ pd j ≤ 3) (hpm : perm3 pa pb ps) (hP : ∀ h c, h < 6 → parB h (P h c))
    (hCC : ∀ (cp : Nat → Int64) k c, k < H → c < 3 ^ U → f_Search_costCombos con cst cp (3 ^ U) U res dem hig pri ord flo sro sco k c = lN (P k c) ∧ P k c ≤ FARn ∧ (P k c < FARn → P k c ≤ 1099511627776)) (hR : f_Search_lookAround con cst cpa car sc sz wt tof ton w3 pa pb ps H U res dem kin hig pri ord flo sro sco n pu pd = R) :
    R.2.2.2.2.2.2.2.2.2.2.2.2.2 = 3 ^ U ∧ perm3 R.2.2.2.2.2.2.2.2.1 R.2.2.2.2.2.2.2.2.2.1 R.2.2.2.2.2.2.2.2.2.2.1 ∧ ∃ C : Nat → Nat, (∀ c, c < 81 → R.2.1 c = lN (C c)) ∧ (∀ c, midB n (C c)) ∧ ∀ Q : Nat → Nat → Nat, (∀ h, h < H → h ≠ n → Q h = P h) → DZ (-1) kin pu pd U Q H = mnF (fun c => fad (C c) (Q n c)) (3 ^ U) := by
  obtain ⟨sc', sz', wt', tof', ton', ss', sk', e, hI⟩ := ls_spec (wo := -1) (kin := kin) (sc := sc) (sz := sz) (wt := wt) (tof := tof) (ton := ton) hU hpu hpd
  have hss : ss' ≤ 1296 := by
    rw [hI.2.1]
    exact Nat.le_trans (pwz_le6 (fun u hu => zU_le (hpu u hu).2 (hpd u hu).2)) (pow6_4s hU)
  have hs0 := lsI_s0 hI
  have hsc : ∀ s, s < ss' → sc' s < 3 ^ U := fun s hs => by
    rw [hI.2.2.2.2 s hs]
    exact scS_lt (fun u own => uAct_le) U
  have hsk : sk' = 3 ^ U := hI.2.2.1
  subst hsk
  obtain ⟨p1, p2, p3, p4, p5, p6⟩ := hpm
  have hto := tr_of hI hss (fun j hj => (hpd j hj).1)
  have htn := tr_on hI hss
  obtain ⟨A, w1, w2, w3', w4⟩ := walk_spec (cpa := cpa) (w3 := w3) (su := U) (sk := 3 ^ U) (P := P) hH p5 hs0 hto htn (fun cp k s hk hs => hCC cp k (sc' s) hk (hsc s hs)) n (by omega)
  unfold f_Search_lookAround at hR
  rw [e, lt_eq] at hR
  dsimp only at hR
  generalize f_Search_walk con cst cpa sc' sz' wt' tof' ton' w3 pa ps U ss' (3 ^ U) U res dem hig pri ord flo sro sco n = q2 at hR w1 w2
  rw [lt_eq] at hR
  have hq2 : swp pa ps q2.2.2.1 q2.2.2.2 := w2
  have hnq : q2.2.2.1 ≠ q2.2.2.2 := by unfold swp at hq2; omega
  obtain ⟨T, t1, t2, t3, t4⟩ := turn_spec (sz := sz') (wt := wt') (tof := tof') (ton := ton') (of_ := ofZ (-1) kin pu pd U) (on_ := onZ (-1) kin pu pd U) hnq w1 hto htn U (Nat.le_refl _)
  unfold f_Search_turnAll at hR
  generalize f_Search_turnAll_L2 sz' wt' tof' ton' ss' q2.2.1 q2.2.2.1 q2.2.2.2 U = q3 at hR t1 t2 t3
  rw [lt_eq] at hR
  dsimp only at hR
  have hq3 : swp pa ps q3.2.1 q3.2.2 := swp_tr hq2 t2
  have hnb : pb ≠ q3.2.2 := by unfold swp at hq3; omega
  have hna : q3.2.1 ≠ pb ∧ q3.2.1 ≠ q3.2.2 := by unfold swp at hq3; omega
  unfold f_Search_walkBack at hR
  obtain ⟨f1, f2⟩ := fill_rp (w3 := q3.1) (ri := pb) (ss := ss') (v := (0 : Int64)) (V := 0) rfl (Nat.zero_le _)
  generalize f_Search_fillStates q3.1 ss' (0 : Int64) pb = q4 at hR f1 f2
  rw [lt_eq (a := q4)] at hR
  generalize hK : f_Search_walkBack_L16 con cst sc' sz' wt' tof' ton' U ss' (3 ^ U) U res dem hig pri ord flo sro sco n (H + 1) H q2.1 q4 pb q3.2.2 = K at hR
  obtain ⟨b1, b2, b3⟩ := wb_L (wo := -1) (kin := kin) (pu := pu) (pd := pd) (P := P) hH hpu hpd hP hto htn (fun cp k s hk hs => hCC cp k (sc' s) hk (hsc s hs)) hn (H + 1) H q2.1 q4 pb q3.2.2 (by omega) hn (Nat.le_refl _) hnb (by rw [Nat.sub_self]; exact f1) K hK
  rw [lt_eq, lt_eq] at hR
  dsimp only at hR
  subst hR
  dsimp only
  have hT2 : rp (K.2.2.1 q3.2.1) T ss' := by rw [b3 _ hna.1 hna.2, f2 _ hna.1]; exact t1
  have hTs : ∀ t, t < ss' → T t = WW (ofZ (-1) kin pu pd U) (onZ (-1) kin pu pd U) sc' U P n (TT (ofZ (-1) kin pu pd U) (onZ (-1) kin pu pd U) U (fun j => if j = t then 0 else FARn)) 0 := by
    intro t ht
    have e1 := t4 (fun j => if j = t then 0 else FARn)
    rw [mn_only ht (t1 t ht).2, w4, mn_A0 hs0 (WW_le n _ (fun t => TT_le U _ (fun j => by split <;> first | exact Nat.zero_le _ | exact Nat.le_refl _) t) 0)] at e1
    exact e1
  have hTsp : ∀ t, t < ss' → spB 0 n (T t) := by
    intro t ht
    rw [hTs t ht]
    refine sp_WW (by omega) hP n (Nat.le_refl _) _ (fun r => sp_zf (zf_TT U _ (fun j => ?_) r)) 0
    by_cases c : j = t
    · rw [if_pos c]; exact Or.inl rfl
    · rw [if_neg c]; exact Or.inr rfl
  have hBl := SV_low (of_ := ofZ (-1) kin pu pd U) (on_ := onZ (-1) kin pu pd U) (sc := sc') (U := U) hH hP (H - (n + 1)) (by omega)
  rw [show H - (H - (n + 1)) = n + 1 by omega] at hBl
  refine ⟨rfl, ?_, CA sc' T (SV (ofZ (-1) kin pu pd U) (onZ (-1) kin pu pd U) sc' U P H (H - (n + 1))) ss', ?_, ?_, ?_⟩
  · unfold swp at hq3 b2
    unfold perm3
    omega
  · intro c hc
    refine L34_spec hT2 b1 (fun c hc => ?_) ss' (Nat.le_refl _) c hc
    unfold f_fillJ
    exact fJ_sp 81 c hc
  · intro c
    rcases mnF_at (f := fun s => if sc' s = c then fad (T s) (SV (ofZ (-1) kin pu pd U) (onZ (-1) kin pu pd U) sc' U P H (H - (n + 1)) s) else FARn) ss' with z | ⟨s, hs, z⟩
    · unfold CA
      rw [z]
      exact Or.inl rfl
    · unfold CA
      rw [z]
      by_cases d : sc' s = c
      · rw [if_pos d]
        exact mid_of (by omega) (hTsp s hs) (hBl s)
      · rw [if_neg d]
        exact Or.inl rfl
  · intro Q hQ
    rw [CA_mn hsc]
    have h1 : DZ (-1) kin pu pd U Q H = WW (ofZ (-1) kin pu pd U) (onZ (-1) kin pu pd U) sc' U Q H (fun _ => 0) 0 := by
      refine (WW_congr2 (ss := ss') (fun u s t hu h => ?_) (fun u s t hu h => ?_) (fun s hs => hI.2.2.2.2 s hs) H _ _ (fun _ _ => rfl) 0 hs0).symm
      · rw [hI.2.1]; exact ofZ_lt (fun j hj => (hpd j hj).1) u s t hu h
      · rw [hI.2.1]; exact onZ_lt u s t hu h
    rw [h1, ← SV_WW (H - (n + 1)) (by omega), show H - (H - (n + 1)) = n + 1 by omega]
    have h2 : SV (ofZ (-1) kin pu pd U) (onZ (-1) kin pu pd U) sc' U Q H (H - (n + 1)) = SV (ofZ (-1) kin pu pd U) (onZ (-1) kin pu pd U) sc' U P H (H - (n + 1)) := SV_P _ (by omega) (fun h h1 h2 => hQ h h2 (by omega))
    rw [h2]
    show WW (ofZ (-1) kin pu pd U) (onZ (-1) kin pu pd U) sc' U Q n (TT _ _ U (fun s => fad (Q n (sc' s)) (SV (ofZ (-1) kin pu pd U) (onZ (-1) kin pu pd U) sc' U P H (H - (n + 1)) s))) 0 = _
    rw [WW_P n _ (fun h hh => hQ h (by omega) (by omega)), t4, w4, mn_A0 hs0 (WW_le n _ (fun t => TT_le U _ (fun _ => fad_le) t) 0)]
end LA
