theorem leN {v : Int32} {N : Nat} (hN : N < 1000) (h0 : ¬ v < 0) (h : ¬ nI N < v) : ∃ k, k ≤ N ∧ v = nI k := by
  have hv : v < nI (N + 1) := by
    refine Int32.lt_iff_toInt_lt.mpr ?_
    have e3 : ¬ (nI N).toInt < v.toInt := fun z => h (Int32.lt_iff_toInt_lt.mpr z)
    have e1 : (nI N - nI 0).toInt = ((N : Nat) : Int) - (0 : Nat) := pk_sub_toInt (by omega) (by omega)
    have e2 : (nI (N + 1) - nI 0).toInt = ((N + 1 : Nat) : Int) - (0 : Nat) := pk_sub_toInt (by omega) (by omega)
    rw [pk_sub (Nat.zero_le _), Nat.sub_zero] at e1 e2
    rw [e2]
    omega
  obtain ⟨k, hk, e⟩ := lt_nat (by omega) h0 hv
  exact ⟨k, by omega, e⟩
theorem geN {v : Int32} {N : Nat} (hN : N < 1000) (h0 : ¬ v < 1) (h : ¬ nI N < v) : ∃ k, 1 ≤ k ∧ k ≤ N ∧ v = nI k := by
  have h00 : ¬ v < 0 := fun z => h0 (by
    have := Int32.lt_iff_toInt_lt.mp z
    have e0 : (0 : Int32).toInt = 0 := by decide
    have e1 : (1 : Int32).toInt = 1 := by decide
    exact Int32.lt_iff_toInt_lt.mpr (by omega))
  obtain ⟨k, hk, rfl⟩ := leN hN h00 h
  refine ⟨k, ?_, hk, rfl⟩
  rcases Nat.eq_zero_or_pos k with z | z
  · rw [z] at h0; exact absurd (by decide) h0
  · exact z
section OPS
variable {P : Nat → Nat} {Z : Nat → Nat → Nat} {afi asz : Nat} {kn : Int64} {ik : Int32} {W : Nat → Nat → Int32} {past : Nat → Int32} {H U : Nat} {res : Int32} {dem kin low hig pri sta ups dow onn : Nat → Int32} {ord : Nat → Nat} {flo sro sco : Nat → Int32} {H3 U3 : Nat} {res3 : Int32} {dem3 kin3 low3 hig3 pri3 sta3 ups3 dow3 onn3 : Nat → Int32} {ord3 : Nat → Nat} {flo3 sro3 sco3 : Nat → Int32}
theorem op_run {u hrs : Int32} {R : Int32 × (Nat → Int32) × Nat × Nat × Nat × Nat × Int32 × (Nat → Int32) × (Nat → Int32) × (Nat → Int32) × (Nat → Int32) × (Nat → Int32) × (Nat → Int32) × (Nat → Int32) × (Nat → Int32) × (Nat → Int32) × (Nat → Nat) × (Nat → Int32) × (Nat → Int32) × (Nat → Int32) × Int32} {M : Int32 × (Nat → Nat → Int32) × (Nat → Int32) × Nat} (hP : nOK P) (hc : cD P H U res dem kin low hig pri sta ups dow onn) (hs : cS P ord flo sro sco) (hZ : nOK (Z ((FI afi asz + ZS asz) % 16)) ∧ cD (Z ((FI afi asz + ZS asz) % 16)) H3 U3 res3 dem3 kin3 low3 hig3 pri3 sta3 ups3 dow3 onn3 ∧ cS (Z ((FI afi asz + ZS asz) % 16)) ord3 flo3 sro3 sco3) (hm : mD (W 0) P) (h5 : afi < 16 ∧ asz ≤ 16 ∧ ∀ i, i < asz → mD (fun j => past (41 * i + j)) (Z ((afi + i) % 16))) (h7 : ik = 0 ∨ bestIs (-1000000) P kn) (hR : f_UH_run ik H U res dem kin low hig pri sta ups dow onn afi asz H3 U3 res3 dem3 kin3 low3 hig3 pri3 sta3 ups3 dow3 onn3 ord3 flo3 sro3 sco3 u hrs = R) (hM : f_Model_run W past asz u hrs U H = M) :
    R.1 = M.1 ∧ aOK Z ((FI afi asz + ZS asz) % 16) kn M.2.1 M.2.2.1 M.2.2.2 H U res dem kin low hig pri sta ups dow R.2.1 ord flo sro sco R.2.2.2.2.1 R.2.2.2.2.2.1 R.2.2.2.2.2.2.1 R.2.2.2.2.2.2.2.1 R.2.2.2.2.2.2.2.2.1 R.2.2.2.2.2.2.2.2.2.1 R.2.2.2.2.2.2.2.2.2.2.1 R.2.2.2.2.2.2.2.2.2.2.2.1 R.2.2.2.2.2.2.2.2.2.2.2.2.1 R.2.2.2.2.2.2.2.2.2.2.2.2.2.1 R.2.2.2.2.2.2.2.2.2.2.2.2.2.2.1 R.2.2.2.2.2.2.2.2.2.2.2.2.2.2.2.1 R.2.2.2.2.2.2.2.2.2.2.2.2.2.2.2.2.1 R.2.2.2.2.2.2.2.2.2.2.2.2.2.2.2.2.2.1 R.2.2.2.2.2.2.2.2.2.2.2.2.2.2.2.2.2.2.1 R.2.2.2.2.2.2.2.2.2.2.2.2.2.2.2.2.2.2.2.1 R.2.2.1 R.2.2.2.1 R.2.2.2.2.2.2.2.2.2.2.2.2.2.2.2.2.2.2.2.2 := by
  have hP0 := hP
  have hc0 := hc
  obtain ⟨h0, h1, h2, h3, h4, h6⟩ := hP
  obtain ⟨rfl, rfl, c2, c3, c4⟩ := hc
  unfold f_UH_run at hR
  unfold f_Model_run f_Model_in at hM
  have eall : ((1 : Int32) <<< ((nI (P 1)) &&& 31)) - (1 : Int32) = nI (2 ^ (P 1) - 1) := ah_eq h1
  rw [eall] at hM
  have h64 : 2 ^ (P 1) ≤ 2 ^ 6 := Nat.pow_le_pow_right (by decide) h1
  have hpos : 0 < 2 ^ (P 1) := Nat.pow_pos (by decide)
  rcases unitC (u := u) h0 with ⟨k, hk, rfl, g1, g2⟩ | ⟨g1, g2⟩
  · rw [g1, iteT (show (0 : Int32) = 0 from rfl), nI_clamp (by omega)] at hR
    rw [g2, iteF (show ¬ (1 : Int32) = 0 by decide), nI_clamp (by omega)] at hM
    by_cases d1 : hrs < 0
    · rw [if_pos d1] at hR
      rw [if_pos d1, iteT (show (0 : Int32) = 0 from rfl)] at hM
      subst hR hM
      exact ⟨rfl, aOK_same hP0 hc0 hs hZ hm h5 h7⟩
    by_cases d2 : nI (2 ^ (P 1) - 1) < hrs
    · rw [if_neg d1, if_pos d2] at hR
      rw [if_neg d1, if_pos d2, iteT (show (0 : Int32) = 0 from rfl)] at hM
      subst hR hM
      exact ⟨rfl, aOK_same hP0 hc0 hs hZ hm h5 h7⟩
    rw [if_neg d1, if_neg d2] at hR
    rw [if_neg d1, if_neg d2, iteF (show ¬ (1 : Int32) = 0 by decide)] at hM
    obtain ⟨v, hv, rfl⟩ := leN (by omega) d1 d2
    have ew : onn k = (W 0) ((9 + (8 * k)) + 7) := by rw [(c4 k hk).2.2.2.2.2.2.2, hm ((9 + (8 * k)) + 7) (by omega)]
    by_cases d3 : onn k = nI v
    · rw [if_pos d3] at hR
      rw [← ew, if_pos d3] at hM
      subst hR hM
      exact ⟨rfl, aOK_same hP0 hc0 hs hZ hm h5 h7⟩
    · rw [if_neg d3] at hR
      rw [← ew, if_neg d3] at hM
      generalize hq : f_UH_keepForUndo (P 1) (P 0) res dem kin low hig pri sta ups dow onn afi asz dem3 kin3 low3 hig3 pri3 sta3 ups3 dow3 onn3 ord3 flo3 sro3 sco3 = q at hR
      rw [lt_eq] at hR
      subst hR hM
      exact ⟨rfl, aOK_keep (W' := va_up W 0 (upd (W 0) ((9 + (8 * k)) + 7) (nI v))) (P' := va_up P ((9 + (8 * k)) + 7) v) hP0 hc0 hZ.2.2.2.1 hm h5 (nOK_on hP0 hk (by omega)) (by dsimp only; rw [upd_eq]; exact cD_on hc0 h1) (cS_on hs) (by rw [vu_self, upd_eq]; exact mD_up hm) hq⟩
  · rw [g1, iteF (show ¬ (1 : Int32) = 0 by decide)] at hR
    rw [g2, iteT (show (0 : Int32) = 0 from rfl)] at hM
    subst hR hM
    exact ⟨rfl, aOK_same hP0 hc0 hs hZ hm h5 h7⟩
theorem op_demand {hr v : Int32} {R : Int32 × (Nat → Int32) × Nat × Nat × Nat × Nat × Int32 × (Nat → Int32) × (Nat → Int32) × (Nat → Int32) × (Nat → Int32) × (Nat → Int32) × (Nat → Int32) × (Nat → Int32) × (Nat → Int32) × (Nat → Int32) × (Nat → Nat) × (Nat → Int32) × (Nat → Int32) × (Nat → Int32) × Int32} {M : Int32 × (Nat → Nat → Int32) × (Nat → Int32) × Nat} (hP : nOK P) (hc : cD P H U res dem kin low hig pri sta ups dow onn) (hs : cS P ord flo sro sco) (hZ : nOK (Z ((FI afi asz + ZS asz) % 16)) ∧ cD (Z ((FI afi asz + ZS asz) % 16)) H3 U3 res3 dem3 kin3 low3 hig3 pri3 sta3 ups3 dow3 onn3 ∧ cS (Z ((FI afi asz + ZS asz) % 16)) ord3 flo3 sro3 sco3) (hm : mD (W 0) P) (h5 : afi < 16 ∧ asz ≤ 16 ∧ ∀ i, i < asz → mD (fun j => past (41 * i + j)) (Z ((afi + i) % 16))) (h7 : ik = 0 ∨ bestIs (-1000000) P kn) (hR : f_UH_demand ik H U res dem kin low hig pri sta ups dow onn afi asz H3 U3 res3 dem3 kin3 low3 hig3 pri3 sta3 ups3 dow3 onn3 ord3 flo3 sro3 sco3 hr v = R) (hM : f_Model_demand W past asz hr v H = M) :
    R.1 = M.1 ∧ aOK Z ((FI afi asz + ZS asz) % 16) kn M.2.1 M.2.2.1 M.2.2.2 H U res R.2.1 kin low hig pri sta ups dow onn ord flo sro sco R.2.2.2.2.1 R.2.2.2.2.2.1 R.2.2.2.2.2.2.1 R.2.2.2.2.2.2.2.1 R.2.2.2.2.2.2.2.2.1 R.2.2.2.2.2.2.2.2.2.1 R.2.2.2.2.2.2.2.2.2.2.1 R.2.2.2.2.2.2.2.2.2.2.2.1 R.2.2.2.2.2.2.2.2.2.2.2.2.1 R.2.2.2.2.2.2.2.2.2.2.2.2.2.1 R.2.2.2.2.2.2.2.2.2.2.2.2.2.2.1 R.2.2.2.2.2.2.2.2.2.2.2.2.2.2.2.1 R.2.2.2.2.2.2.2.2.2.2.2.2.2.2.2.2.1 R.2.2.2.2.2.2.2.2.2.2.2.2.2.2.2.2.2.1 R.2.2.2.2.2.2.2.2.2.2.2.2.2.2.2.2.2.2.1 R.2.2.2.2.2.2.2.2.2.2.2.2.2.2.2.2.2.2.2.1 R.2.2.1 R.2.2.2.1 R.2.2.2.2.2.2.2.2.2.2.2.2.2.2.2.2.2.2.2.2 := by
  have hP0 := hP
  have hc0 := hc
  obtain ⟨h0, h1, h2, h3, h4, h6⟩ := hP
  obtain ⟨rfl, rfl, c2, c3, c4⟩ := hc
  unfold f_UH_demand at hR
  unfold f_Model_demand f_Model_in f_Model_becomes at hM
  rcases hourC (u := hr) h1 with ⟨k, hk, rfl, g1, g2⟩ | ⟨g1, g2⟩
  · rw [g1, iteT (show (0 : Int32) = 0 from rfl), nI_clamp (by omega)] at hR
    rw [g2, iteF (show ¬ (1 : Int32) = 0 by decide), nI_clamp (by omega)] at hM
    by_cases d1 : v < 0
    · rw [if_pos d1] at hR
      rw [if_pos d1, iteT (show (0 : Int32) = 0 from rfl)] at hM
      subst hR hM
      exact ⟨rfl, aOK_same hP0 hc0 hs hZ hm h5 h7⟩
    by_cases d2 : 60 < v
    · rw [if_neg d1, if_pos d2] at hR
      rw [if_neg d1, if_pos d2, iteT (show (0 : Int32) = 0 from rfl)] at hM
      subst hR hM
      exact ⟨rfl, aOK_same hP0 hc0 hs hZ hm h5 h7⟩
    rw [if_neg d1, if_neg d2] at hR
    rw [if_neg d1, if_neg d2, iteF (show ¬ (1 : Int32) = 0 by decide)] at hM
    obtain ⟨w, hw, rfl⟩ := leN (N := 60) (by omega) d1 d2
    have ew : dem k = (W 0) (3 + k) := by rw [c3 k hk, hm (3 + k) (by omega)]
    generalize hq : f_UH_keepForUndo (P 1) (P 0) res dem kin low hig pri sta ups dow onn afi asz dem3 kin3 low3 hig3 pri3 sta3 ups3 dow3 onn3 ord3 flo3 sro3 sco3 = q at hR
    rw [lt_eq] at hR
    rw [← ew] at hM
    subst hR hM
    exact ⟨rfl, aOK_keep (W' := va_up W 0 (upd (W 0) (3 + k) (nI w))) (P' := va_up P (3 + k) w) hP0 hc0 hZ.2.2.2.1 hm h5 (nOK_dem hP0 hk (by omega)) (by dsimp only; rw [upd_eq]; exact cD_dem hc0 hk h1) (cS_dem (by omega) hs) (by rw [vu_self, upd_eq]; exact mD_up hm) hq⟩
  · rw [g1, iteF (show ¬ (1 : Int32) = 0 by decide)] at hR
    rw [g2, iteT (show (0 : Int32) = 0 from rfl)] at hM
    subst hR hM
    exact ⟨rfl, aOK_same hP0 hc0 hs hZ hm h5 h7⟩
theorem op_reserve {v : Int32} {R : Int32 × Int32 × Nat × Nat × Nat × Nat × Int32 × (Nat → Int32) × (Nat → Int32) × (Nat → Int32) × (Nat → Int32) × (Nat → Int32) × (Nat → Int32) × (Nat → Int32) × (Nat → Int32) × (Nat → Int32) × (Nat → Nat) × (Nat → Int32) × (Nat → Int32) × (Nat → Int32) × Int32} {M : Int32 × (Nat → Nat → Int32) × (Nat → Int32) × Nat} (hP : nOK P) (hc : cD P H U res dem kin low hig pri sta ups dow onn) (hs : cS P ord flo sro sco) (hZ : nOK (Z ((FI afi asz + ZS asz) % 16)) ∧ cD (Z ((FI afi asz + ZS asz) % 16)) H3 U3 res3 dem3 kin3 low3 hig3 pri3 sta3 ups3 dow3 onn3 ∧ cS (Z ((FI afi asz + ZS asz) % 16)) ord3 flo3 sro3 sco3) (hm : mD (W 0) P) (h5 : afi < 16 ∧ asz ≤ 16 ∧ ∀ i, i < asz → mD (fun j => past (41 * i + j)) (Z ((afi + i) % 16))) (h7 : ik = 0 ∨ bestIs (-1000000) P kn) (hR : f_UH_reserve ik H U res dem kin low hig pri sta ups dow onn afi asz H3 U3 res3 dem3 kin3 low3 hig3 pri3 sta3 ups3 dow3 onn3 ord3 flo3 sro3 sco3 v = R) (hM : f_Model_reserve W past asz v = M) :
    R.1 = M.1 ∧ aOK Z ((FI afi asz + ZS asz) % 16) kn M.2.1 M.2.2.1 M.2.2.2 H U R.2.1 dem kin low hig pri sta ups dow onn ord flo sro sco R.2.2.2.2.1 R.2.2.2.2.2.1 R.2.2.2.2.2.2.1 R.2.2.2.2.2.2.2.1 R.2.2.2.2.2.2.2.2.1 R.2.2.2.2.2.2.2.2.2.1 R.2.2.2.2.2.2.2.2.2.2.1 R.2.2.2.2.2.2.2.2.2.2.2.1 R.2.2.2.2.2.2.2.2.2.2.2.2.1 R.2.2.2.2.2.2.2.2.2.2.2.2.2.1 R.2.2.2.2.2.2.2.2.2.2.2.2.2.2.1 R.2.2.2.2.2.2.2.2.2.2.2.2.2.2.2.1 R.2.2.2.2.2.2.2.2.2.2.2.2.2.2.2.2.1 R.2.2.2.2.2.2.2.2.2.2.2.2.2.2.2.2.2.1 R.2.2.2.2.2.2.2.2.2.2.2.2.2.2.2.2.2.2.1 R.2.2.2.2.2.2.2.2.2.2.2.2.2.2.2.2.2.2.2.1 R.2.2.1 R.2.2.2.1 R.2.2.2.2.2.2.2.2.2.2.2.2.2.2.2.2.2.2.2.2 := by
  have hdc := dayC hP hm hc
  have hP0 := hP
  have hc0 := hc
  obtain ⟨h0, h1, h2, h3, h4, h6⟩ := hP
  obtain ⟨rfl, rfl, c2, c3, c4⟩ := hc
  unfold f_UH_reserve at hR
  unfold f_Model_reserve f_Model_in f_Model_becomes at hM
  rcases hdc with ⟨g1, g2, -⟩ | ⟨g1, g2, -⟩
  · rw [g1, iteF (show ¬ (1 : Int32) = 0 by decide)] at hR
    rw [g2, iteT (show (0 : Int32) = 0 from rfl)] at hM
    subst hR hM
    exact ⟨rfl, aOK_same hP0 hc0 hs hZ hm h5 h7⟩
  · rw [g1, iteT (show (0 : Int32) = 0 from rfl)] at hR
    rw [g2, iteF (show ¬ (1 : Int32) = 0 by decide)] at hM
    by_cases d1 : v < 0
    · rw [if_pos d1] at hR
      rw [if_pos d1, iteT (show (0 : Int32) = 0 from rfl)] at hM
      subst hR hM
      exact ⟨rfl, aOK_same hP0 hc0 hs hZ hm h5 h7⟩
    by_cases d2 : 20 < v
    · rw [if_neg d1, if_pos d2] at hR
      rw [if_neg d1, if_pos d2, iteT (show (0 : Int32) = 0 from rfl)] at hM
      subst hR hM
      exact ⟨rfl, aOK_same hP0 hc0 hs hZ hm h5 h7⟩
    rw [if_neg d1, if_neg d2] at hR
    rw [if_neg d1, if_neg d2, iteF (show ¬ (1 : Int32) = 0 by decide)] at hM
    obtain ⟨w, hw, rfl⟩ := leN (N := 20) (by omega) d1 d2
    have ew : res = (W 0) 2 := by rw [c2, hm 2 (by omega)]
    generalize hq : f_UH_keepForUndo (P 1) (P 0) res dem kin low hig pri sta ups dow onn afi asz dem3 kin3 low3 hig3 pri3 sta3 ups3 dow3 onn3 ord3 flo3 sro3 sco3 = q at hR
    rw [lt_eq] at hR
    rw [← ew] at hM
    subst hR hM
    exact ⟨rfl, aOK_keep (W' := va_up W 0 (upd (W 0) 2 (nI w))) (P' := va_up P 2 w) hP0 hc0 hZ.2.2.2.1 hm h5 (nOK_res hP0 (by omega)) (cD_res hc0) (cS_res hs) (by rw [vu_self, upd_eq]; exact mD_up hm) hq⟩
theorem op_price {u v : Int32} {R : Int32 × (Nat → Int32) × (Nat → Nat) × (Nat → Int32) × (Nat → Int32) × (Nat → Int32) × Nat × Nat × Nat × Nat × Int32 × (Nat → Int32) × (Nat → Int32) × (Nat → Int32) × (Nat → Int32) × (Nat → Int32) × (Nat → Int32) × (Nat → Int32) × (Nat → Int32) × (Nat → Int32) × (Nat → Nat) × (Nat → Int32) × (Nat → Int32) × (Nat → Int32) × Int32} {M : Int32 × (Nat → Nat → Int32) × (Nat → Int32) × Nat} (hP : nOK P) (hc : cD P H U res dem kin low hig pri sta ups dow onn) (hs : cS P ord flo sro sco) (hZ : nOK (Z ((FI afi asz + ZS asz) % 16)) ∧ cD (Z ((FI afi asz + ZS asz) % 16)) H3 U3 res3 dem3 kin3 low3 hig3 pri3 sta3 ups3 dow3 onn3 ∧ cS (Z ((FI afi asz + ZS asz) % 16)) ord3 flo3 sro3 sco3) (hm : mD (W 0) P) (h5 : afi < 16 ∧ asz ≤ 16 ∧ ∀ i, i < asz → mD (fun j => past (41 * i + j)) (Z ((afi + i) % 16))) (h7 : ik = 0 ∨ bestIs (-1000000) P kn) (hR : f_UH_price ik H U res dem kin low hig pri sta ups dow onn ord flo sro sco afi asz H3 U3 res3 dem3 kin3 low3 hig3 pri3 sta3 ups3 dow3 onn3 ord3 flo3 sro3 sco3 u v = R) (hM : f_Model_price W past asz u v U = M) :
    R.1 = M.1 ∧ aOK Z ((FI afi asz + ZS asz) % 16) kn M.2.1 M.2.2.1 M.2.2.2 H U res dem kin low hig R.2.1 sta ups dow onn R.2.2.1 R.2.2.2.1 R.2.2.2.2.1 R.2.2.2.2.2.1 R.2.2.2.2.2.2.2.2.1 R.2.2.2.2.2.2.2.2.2.1 R.2.2.2.2.2.2.2.2.2.2.1 R.2.2.2.2.2.2.2.2.2.2.2.1 R.2.2.2.2.2.2.2.2.2.2.2.2.1 R.2.2.2.2.2.2.2.2.2.2.2.2.2.1 R.2.2.2.2.2.2.2.2.2.2.2.2.2.2.1 R.2.2.2.2.2.2.2.2.2.2.2.2.2.2.2.1 R.2.2.2.2.2.2.2.2.2.2.2.2.2.2.2.2.1 R.2.2.2.2.2.2.2.2.2.2.2.2.2.2.2.2.2.1 R.2.2.2.2.2.2.2.2.2.2.2.2.2.2.2.2.2.2.1 R.2.2.2.2.2.2.2.2.2.2.2.2.2.2.2.2.2.2.2.1 R.2.2.2.2.2.2.2.2.2.2.2.2.2.2.2.2.2.2.2.2.1 R.2.2.2.2.2.2.2.2.2.2.2.2.2.2.2.2.2.2.2.2.2.1 R.2.2.2.2.2.2.2.2.2.2.2.2.2.2.2.2.2.2.2.2.2.2.1 R.2.2.2.2.2.2.2.2.2.2.2.2.2.2.2.2.2.2.2.2.2.2.2.1 R.2.2.2.2.2.2.1 R.2.2.2.2.2.2.2.1 R.2.2.2.2.2.2.2.2.2.2.2.2.2.2.2.2.2.2.2.2.2.2.2.2 := by
  have hP0 := hP
  have hc0 := hc
  obtain ⟨h0, h1, h2, h3, h4, h6⟩ := hP
  obtain ⟨rfl, rfl, c2, c3, c4⟩ := hc
  unfold f_UH_price at hR
  unfold f_Model_price f_Model_in f_Model_becomes at hM
  rcases unitC (u := u) h0 with ⟨k, hk, rfl, g1, g2⟩ | ⟨g1, g2⟩
  · rw [g1, iteT (show (0 : Int32) = 0 from rfl), nI_clamp (by omega)] at hR
    rw [g2, iteF (show ¬ (1 : Int32) = 0 by decide), nI_clamp (by omega)] at hM
    by_cases d1 : v < 1
    · rw [if_pos d1] at hR
      rw [if_pos d1, iteT (show (0 : Int32) = 0 from rfl)] at hM
      subst hR hM
      exact ⟨rfl, aOK_same hP0 hc0 hs hZ hm h5 h7⟩
    by_cases d2 : 9 < v
    · rw [if_neg d1, if_pos d2] at hR
      rw [if_neg d1, if_pos d2, iteT (show (0 : Int32) = 0 from rfl)] at hM
      subst hR hM
      exact ⟨rfl, aOK_same hP0 hc0 hs hZ hm h5 h7⟩
    rw [if_neg d1, if_neg d2] at hR
    rw [if_neg d1, if_neg d2, iteF (show ¬ (1 : Int32) = 0 by decide)] at hM
    obtain ⟨w, hw1, hw, rfl⟩ := geN (N := 9) (by omega) d1 d2
    have ew : pri k = (W 0) ((9 + (8 * k)) + 3) := by rw [(c4 k hk).2.2.2.1, hm ((9 + (8 * k)) + 3) (by omega)]
    generalize hq : f_UH_keepForUndo (P 1) (P 0) res dem kin low hig pri sta ups dow onn afi asz dem3 kin3 low3 hig3 pri3 sta3 ups3 dow3 onn3 ord3 flo3 sro3 sco3 = q at hR
    rw [lt_eq] at hR
    generalize hr2 : f_Day_putPrice (P 0) kin low hig pri sta ord flo sro sco k (nI w) = q2 at hR
    rw [lt_eq] at hR
    rw [← ew] at hM
    obtain ⟨k1, k2, k3⟩ := put_price hP0 hk ⟨hw1, hw⟩ hc0 hs.2.1 hr2
    subst hR hM
    exact ⟨rfl, aOK_keep (W' := va_up W 0 (upd (W 0) ((9 + (8 * k)) + 3) (nI w))) (P' := va_up P ((9 + (8 * k)) + 3) w) hP0 hc0 hZ.2.2.2.1 hm h5 k1 k2 k3 (by rw [vu_self, upd_eq]; exact mD_up hm) hq⟩
  · rw [g1, iteF (show ¬ (1 : Int32) = 0 by decide)] at hR
    rw [g2, iteT (show (0 : Int32) = 0 from rfl)] at hM
    subst hR hM
    exact ⟨rfl, aOK_same hP0 hc0 hs hZ hm h5 h7⟩
theorem op_become {u v : Int32} {R : Int32 × (Nat → Int32) × (Nat → Nat) × (Nat → Int32) × (Nat → Int32) × (Nat → Int32) × Nat × Nat × Nat × Nat × Int32 × (Nat → Int32) × (Nat → Int32) × (Nat → Int32) × (Nat → Int32) × (Nat → Int32) × (Nat → Int32) × (Nat → Int32) × (Nat → Int32) × (Nat → Int32) × (Nat → Nat) × (Nat → Int32) × (Nat → Int32) × (Nat → Int32) × Int32} {M : Int32 × (Nat → Nat → Int32) × (Nat → Int32) × Nat} (hP : nOK P) (hc : cD P H U res dem kin low hig pri sta ups dow onn) (hs : cS P ord flo sro sco) (hZ : nOK (Z ((FI afi asz + ZS asz) % 16)) ∧ cD (Z ((FI afi asz + ZS asz) % 16)) H3 U3 res3 dem3 kin3 low3 hig3 pri3 sta3 ups3 dow3 onn3 ∧ cS (Z ((FI afi asz + ZS asz) % 16)) ord3 flo3 sro3 sco3) (hm : mD (W 0) P) (h5 : afi < 16 ∧ asz ≤ 16 ∧ ∀ i, i < asz → mD (fun j => past (41 * i + j)) (Z ((afi + i) % 16))) (h7 : ik = 0 ∨ bestIs (-1000000) P kn) (hR : f_UH_become ik H U res dem kin low hig pri sta ups dow onn ord flo sro sco afi asz H3 U3 res3 dem3 kin3 low3 hig3 pri3 sta3 ups3 dow3 onn3 ord3 flo3 sro3 sco3 u v = R) (hM : f_Model_become W past asz u v U = M) :
    R.1 = M.1 ∧ aOK Z ((FI afi asz + ZS asz) % 16) kn M.2.1 M.2.2.1 M.2.2.2 H U res dem R.2.1 low hig pri sta ups dow onn R.2.2.1 R.2.2.2.1 R.2.2.2.2.1 R.2.2.2.2.2.1 R.2.2.2.2.2.2.2.2.1 R.2.2.2.2.2.2.2.2.2.1 R.2.2.2.2.2.2.2.2.2.2.1 R.2.2.2.2.2.2.2.2.2.2.2.1 R.2.2.2.2.2.2.2.2.2.2.2.2.1 R.2.2.2.2.2.2.2.2.2.2.2.2.2.1 R.2.2.2.2.2.2.2.2.2.2.2.2.2.2.1 R.2.2.2.2.2.2.2.2.2.2.2.2.2.2.2.1 R.2.2.2.2.2.2.2.2.2.2.2.2.2.2.2.2.1 R.2.2.2.2.2.2.2.2.2.2.2.2.2.2.2.2.2.1 R.2.2.2.2.2.2.2.2.2.2.2.2.2.2.2.2.2.2.1 R.2.2.2.2.2.2.2.2.2.2.2.2.2.2.2.2.2.2.2.1 R.2.2.2.2.2.2.2.2.2.2.2.2.2.2.2.2.2.2.2.2.1 R.2.2.2.2.2.2.2.2.2.2.2.2.2.2.2.2.2.2.2.2.2.1 R.2.2.2.2.2.2.2.2.2.2.2.2.2.2.2.2.2.2.2.2.2.2.1 R.2.2.2.2.2.2.2.2.2.2.2.2.2.2.2.2.2.2.2.2.2.2.2.1 R.2.2.2.2.2.2.1 R.2.2.2.2.2.2.2.1 R.2.2.2.2.2.2.2.2.2.2.2.2.2.2.2.2.2.2.2.2.2.2.2.2 := by
  have hP0 := hP
  have hc0 := hc
  obtain ⟨h0, h1, h2, h3, h4, h6⟩ := hP
  obtain ⟨rfl, rfl, c2, c3, c4⟩ := hc
  unfold f_UH_become at hR
  unfold f_Model_become f_Model_in f_Model_becomes at hM
  rcases unitC (u := u) h0 with ⟨k, hk, rfl, g1, g2⟩ | ⟨g1, g2⟩
  · rw [g1, iteT (show (0 : Int32) = 0 from rfl), nI_clamp (by omega)] at hR
    rw [g2, iteF (show ¬ (1 : Int32) = 0 by decide), nI_clamp (by omega)] at hM
    by_cases d1 : v < 1
    · rw [if_pos d1] at hR
      rw [if_pos d1, iteT (show (0 : Int32) = 0 from rfl)] at hM
      subst hR hM
      exact ⟨rfl, aOK_same hP0 hc0 hs hZ hm h5 h7⟩
    by_cases d2 : 5 < v
    · rw [if_neg d1, if_pos d2] at hR
      rw [if_neg d1, if_pos d2, iteT (show (0 : Int32) = 0 from rfl)] at hM
      subst hR hM
      exact ⟨rfl, aOK_same hP0 hc0 hs hZ hm h5 h7⟩
    rw [if_neg d1, if_neg d2] at hR
    rw [if_neg d1, if_neg d2, iteF (show ¬ (1 : Int32) = 0 by decide)] at hM
    obtain ⟨w, hw1, hw, rfl⟩ := geN (N := 5) (by omega) d1 d2
    have ew : kin k = (W 0) (9 + (8 * k)) := by rw [(c4 k hk).1, hm (9 + (8 * k)) (by omega)]
    by_cases d3 : kin k = nI w
    · rw [if_pos d3] at hR
      rw [← ew, if_pos d3] at hM
      subst hR hM
      exact ⟨rfl, aOK_same hP0 hc0 hs hZ hm h5 h7⟩
    rw [if_neg d3] at hR
    rw [← ew, if_neg d3] at hM
    generalize hq : f_UH_keepForUndo (P 1) (P 0) res dem kin low hig pri sta ups dow onn afi asz dem3 kin3 low3 hig3 pri3 sta3 ups3 dow3 onn3 ord3 flo3 sro3 sco3 = q at hR
    rw [lt_eq] at hR
    generalize hr2 : f_Day_putKind (P 0) kin low hig pri sta ord flo sro sco k (nI w) = q2 at hR
    rw [lt_eq] at hR
    obtain ⟨k1, k2, k3⟩ := put_kind hP0 hk ⟨hw1, hw⟩ hc0 hs.2.1 hr2
    subst hR hM
    exact ⟨rfl, aOK_keep (W' := va_up W 0 (upd (W 0) (9 + (8 * k)) (nI w))) (P' := va_up P (9 + (8 * k)) w) hP0 hc0 hZ.2.2.2.1 hm h5 k1 k2 k3 (by rw [vu_self, upd_eq]; exact mD_up hm) hq⟩
  · rw [g1, iteF (show ¬ (1 : Int32) = 0 by decide)] at hR
    rw [g2, iteT (show (0 : Int32) = 0 from rfl)] at hM
    subst hR hM
    exact ⟨rfl, aOK_same hP0 hc0 hs hZ hm h5 h7⟩
end OPS
