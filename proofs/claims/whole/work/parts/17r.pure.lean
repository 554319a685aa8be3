theorem told_0 {items sets : Nat → Int32} {r n : Nat} : ∀ k y, (f_Model_fits_L127 items sets r n k 0 y).1 = 0 := by
  intro k y
  cases k with
  | zero => rfl
  | succ k =>
    rw [f_Model_fits_L127]
    by_cases c : nI y < nI n
    · rw [if_pos c, iteT (show (0 : Int32) = 0 from rfl)]
    · rw [if_neg c]
theorem told_L {f items sets : Nat → Int32} {kn : Int64} {r n : Nat} (hn : n ≤ 6) (hf : ∀ y, y < 40 → f y = items ((40 * r) + y)) (hs : ∀ y, y < n → sets y = f_Search_unitsIn kn (nI y)) : ∀ k y, k + y = n + 1 → y ≤ n → (∃ z, f_UH_isAsTold_L3 f kn n k y = .inl z ∧ (f_Model_fits_L127 items sets r n k 1 y).1 = 1) ∨ (f_UH_isAsTold_L3 f kn n k y = .inr 0 ∧ (f_Model_fits_L127 items sets r n k 1 y).1 = 0) := by
  intro k
  induction k with
  | zero => intro y h1 h2; omega
  | succ k ih =>
    intro y h1 h2
    rw [f_UH_isAsTold_L3, f_Model_fits_L127]
    by_cases c : y < n
    · rw [if_pos (nI_lt c (by omega)), if_pos (nI_lt c (by omega)), iteF (show ¬ (1 : Int32) = 0 by decide), ← hf y (by omega), hs y c]
      by_cases e : f y = f_Search_unitsIn kn (nI y)
      · rw [if_pos e, if_pos e.symm]
        exact ih (y + 1) (by omega) (by omega)
      · rw [if_neg e, if_neg (fun z => e z.symm)]
        exact Or.inr ⟨rfl, told_0 _ _⟩
    · rw [if_neg (nI_nlt (by omega) (by omega)), if_neg (nI_nlt (by omega) (by omega))]
      exact Or.inl ⟨y, rfl, rfl⟩
theorem told_R {f items sets : Nat → Int32} {kn : Int64} {r n : Nat} (hn : n ≤ 6) (hf : ∀ y, y < 40 → f y = items ((40 * r) + y)) (hs : ∀ y, y < n → sets y = f_Search_unitsIn kn (nI y)) : f_UH_isAsTold f kn n = (f_Model_fits_L127 items sets r n (n + 1) 1 0).1 := by
  unfold f_UH_isAsTold
  rcases told_L hn hf hs (n + 1) 0 rfl (by omega) with ⟨z, a, b⟩ | ⟨a, b⟩
  · rw [a, b]
  · rw [a, b]
section FIT
variable {P : Nat → Nat} {W : Nat → Nat → Int32} {con cst : Nat → Int32} {cpa car : Nat → Int64} {sc sz wt : Nat → Nat} {tof ton : Nat → Nat → Int32} {w3 : Nat → Nat → Int64} {pa pb ps su ss sk : Nat} {H U : Nat} {res : Int32} {dem kin low hig pri sta ups dow onn : Nat → Int32} {ord : Nat → Nat} {flo sro sco : Nat → Int32} {H2 U2 : Nat} {res2 : Int32} {dem2 kin2 low2 hig2 pri2 sta2 ups2 dow2 onn2 : Nat → Int32} {ord2 : Nat → Nat} {flo2 sro2 sco2 : Nat → Int32}
theorem fk_L {u n r : Nat} {f items gvn costs lst sets : Nat → Int32} {bst : Int32} {Wv : Nat → Nat → Int32} (hP : nOK P) (hu : u < P 0) (hn : n ≤ P 1) (hc : cD P H U res dem kin low hig pri sta ups dow onn) (hs : cS P ord flo sro sco) (ht : tbl con cst) (hpm : perm3 pa pb ps) (hf : ∀ y, y < 40 → f y = items ((40 * r) + y)) (hW : ∀ j, j < 41 → j ≠ 9 + (8 * u) → Wv 2 j = nI (P j)) : ∀ k, k ≤ 5 → ∀ A, f_UH_kindsThatFit_L17 con cst H U res dem low hig pri sta f (fun j => P ((9 + (8 * j)) + 5)) (fun j => P ((9 + (8 * j)) + 6)) u n 1 0 cpa sc sz wt tof ton w3 pa ps su ss sk kin ord flo sro sco k = A → ∀ N, f_Model_fits_L81 items U H n u r n 1 0 Wv gvn costs lst sets bst k = N → A.1 = N.1 ∧ perm3 A.2.2.2.2.2.2.2.2.1 pb A.2.2.2.2.2.2.2.2.2.1 ∧ (∀ j, j < 41 → j ≠ 9 + (8 * u) → N.2.1 2 j = nI (P j)) ∧ (∀ i, i ≠ 2 → N.2.1 i = Wv i) ∧ ∃ Q : Nat → Nat, nOK Q ∧ cD Q H U res dem A.2.2.2.2.2.2.2.2.2.2.2.2.2.1 low hig pri sta ups dow onn ∧ cS Q A.2.2.2.2.2.2.2.2.2.2.2.2.2.2.1 A.2.2.2.2.2.2.2.2.2.2.2.2.2.2.2.1 A.2.2.2.2.2.2.2.2.2.2.2.2.2.2.2.2.1 A.2.2.2.2.2.2.2.2.2.2.2.2.2.2.2.2.2 ∧ ∀ j, j ≠ 9 + (8 * u) → Q j = P j := by
  have eH : H = P 1 := hc.1
  have eU : U = P 0 := hc.2.1
  have hH6 : P 1 ≤ 6 := hP.2.1
  intro k
  induction k with
  | zero => intro _ A hA N hN; subst hA hN; exact ⟨rfl, hpm, hW, fun _ _ => rfl, P, hP, hc, hs, fun _ _ => rfl⟩
  | succ k ih =>
    intro hk A hA N hN
    rw [f_UH_kindsThatFit_L17] at hA
    rw [f_Model_fits_L81] at hN
    generalize hB : f_UH_kindsThatFit_L17 con cst H U res dem low hig pri sta f (fun j => P ((9 + (8 * j)) + 5)) (fun j => P ((9 + (8 * j)) + 6)) u n 1 0 cpa sc sz wt tof ton w3 pa ps su ss sk kin ord flo sro sco k = B at hA
    generalize hM : f_Model_fits_L81 items U H n u r n 1 0 Wv gvn costs lst sets bst k = M at hN
    obtain ⟨i1, i2, m1, m2, Q, q1, q2', q3, q4⟩ := ih (by omega) B hB M hM
    unfold f_UH_kindsThatFit_L17s at hA
    unfold f_Model_fits_L81s at hN
    generalize hq2 : f_Day_putKind U B.2.2.2.2.2.2.2.2.2.2.2.2.2.1 low hig pri sta B.2.2.2.2.2.2.2.2.2.2.2.2.2.2.1 B.2.2.2.2.2.2.2.2.2.2.2.2.2.2.2.1 B.2.2.2.2.2.2.2.2.2.2.2.2.2.2.2.2.1 B.2.2.2.2.2.2.2.2.2.2.2.2.2.2.2.2.2 u (nI (1 + k)) = q2 at hA
    rw [lt_eq] at hA
    have q0 : Q 0 = P 0 := q4 0 (by omega)
    obtain ⟨k1, k2, k3⟩ := put_kind q1 (show u < Q 0 by rw [q0]; exact hu) (show 1 ≤ 1 + k ∧ 1 + k ≤ 5 by omega) q2' q3.2.1 hq2
    have eQ : va_up Q (9 + (8 * u)) (1 + k) = va_up P (9 + (8 * u)) (1 + k) := by
      funext j
      by_cases c : j = 9 + (8 * u)
      · rw [c, vu_self, vu_self]
      · rw [vu_ne c, vu_ne c, q4 j c]
    rw [eQ] at k1 k2 k3
    have hb := best_is (lost := -1000000) (wo := -1) (cpa := B.2.1) (ssc := B.2.2.1) (ssz := B.2.2.2.1) (swt := B.2.2.2.2.1) (tof := B.2.2.2.2.2.1) (ton := B.2.2.2.2.2.2.1) (w3 := B.2.2.2.2.2.2.2.1) (pa := B.2.2.2.2.2.2.2.2.1) (ps := B.2.2.2.2.2.2.2.2.2.1) k1 (by decide) k2 k3 ht i2.2.2.2.2.1 (Or.inl ⟨rfl, rfl⟩)
    have zu : (fun j => va_up P (9 + (8 * u)) (1 + k) ((9 + (8 * j)) + 5)) = fun j => P ((9 + (8 * j)) + 5) := by
      funext j; rw [vu_ne (by omega)]
    have zd : (fun j => va_up P (9 + (8 * u)) (1 + k) ((9 + (8 * j)) + 6)) = fun j => P ((9 + (8 * j)) + 6) := by
      funext j; rw [vu_ne (by omega)]
    rw [zu, zd] at hb
    have hsw := fb_sw (R := f_Search_findBest con cst B.2.1 B.2.2.1 B.2.2.2.1 B.2.2.2.2.1 B.2.2.2.2.2.1 B.2.2.2.2.2.2.1 B.2.2.2.2.2.2.2.1 B.2.2.2.2.2.2.2.2.1 B.2.2.2.2.2.2.2.2.2.1 H U res dem q2.1 hig pri q2.2.1 q2.2.2.1 q2.2.2.2.1 q2.2.2.2.2 (-1) (fun j => P ((9 + (8 * j)) + 5)) (fun j => P ((9 + (8 * j)) + 6))) rfl
    generalize f_Search_findBest con cst B.2.1 B.2.2.1 B.2.2.2.1 B.2.2.2.2.1 B.2.2.2.2.2.1 B.2.2.2.2.2.2.1 B.2.2.2.2.2.2.2.1 B.2.2.2.2.2.2.2.2.1 B.2.2.2.2.2.2.2.2.2.1 H U res dem q2.1 hig pri q2.2.1 q2.2.2.1 q2.2.2.2.1 q2.2.2.2.2 (-1) (fun j => P ((9 + (8 * j)) + 5)) (fun j => P ((9 + (8 * j)) + 6)) = fb at hA hb hsw
    rw [lt_eq] at hA
    have hm : mD ((va_up M.2.1 2 (upd (M.2.1 2) (9 + (8 * u)) (nI (1 + k)))) 2) (va_up P (9 + (8 * u)) (1 + k)) := by
      intro j hj
      rw [vu_self]
      by_cases e : j = 9 + (8 * u)
      · rw [e, pk_us, vu_self]
      · rw [pk_un e, vu_ne e]; exact m1 j hj e
    have hbc := bestC (gvn := M.2.2.1) (costs := M.2.2.2.1) (lst := M.2.2.2.2.1) (sets := M.2.2.2.2.2.1) hb hm
    rw [vu_ne (show (0 : Nat) ≠ 9 + (8 * u) by omega), vu_ne (show (1 : Nat) ≠ 9 + (8 * u) by omega), ← eU, ← eH] at hbc
    generalize f_Model_bestCost (va_up M.2.1 2 (upd (M.2.1 2) (9 + (8 * u)) (nI (1 + k)))) M.2.2.1 M.2.2.2.1 M.2.2.2.2.1 M.2.2.2.2.2.1 (-1000000) 2 U H = m at hN hbc
    rw [lt_eq, lt_eq] at hN
    subst hA hN
    dsimp only
    refine ⟨?_, ?_, ?_, ?_, va_up P (9 + (8 * u)) (1 + k), k1, k2, k3, fun j hj => vu_ne hj⟩
    · rcases hbc with ⟨b1, b2, -⟩ | ⟨b1, b2, -, -, D, -, -, b3, -⟩
      · rw [if_pos b1, if_pos b2, told_0, iteT (show (0 : Int32) = 0 from rfl), Int32.or_zero, i1]
      · rw [if_neg b1, if_neg b2, ← told_R (f := f) (kn := fb.1) (by omega) hf (fun y hy => b3 y (by omega)), i1]
        by_cases e : f_UH_isAsTold f fb.1 n = 0
        · rw [if_pos e, if_pos e, Int32.or_zero]
        · rw [if_neg e, if_neg e]
    · unfold swp at hsw
      unfold perm3 at i2 ⊢
      omega
    · intro j hj e
      rw [vu_self, pk_un e]; exact m1 j hj e
    · intro i hi
      rw [vu_ne hi]; exact m2 i hi
theorem fits_R {u row nn fin : Int32} {it : Nat → Nat → Int32} {lan siz lane : Nat → Int32} {many : Nat → Nat} {items gvn costs lst sets : Nat → Int32} {bst : Int32} {R : Int32 × (Nat → Int64) × (Nat → Nat) × (Nat → Nat) × (Nat → Nat) × (Nat → Nat → Int32) × (Nat → Nat → Int32) × (Nat → Nat → Int64) × Nat × Nat × Nat × Nat × Nat × Nat × Nat × Int32 × (Nat → Int32) × (Nat → Int32) × (Nat → Int32) × (Nat → Int32) × (Nat → Int32) × (Nat → Int32) × (Nat → Int32) × (Nat → Int32) × (Nat → Int32) × (Nat → Nat) × (Nat → Int32) × (Nat → Int32) × (Nat → Int32) × Int32} {M : Int32 × Int32 × (Nat → Nat → Int32) × (Nat → Int32) × (Nat → Int32) × (Nat → Int32) × (Nat → Int32) × Int32} (hP : nOK P) (hc : cD P H U res dem kin low hig pri sta ups dow onn) (hs : cS P ord flo sro sco) (hm : mD (W 0) P) (ht : tbl con cst) (hpm : perm3 pa pb ps) (hH2 : H2 ≤ 6) (hU2 : U2 ≤ 4) (hO2 : ∀ j, j < 4 → ord2 j < 4) (hr : rR it lan siz lane many items) (hR : f_UH_fits fin it siz H U res dem kin low hig pri sta ups dow onn con cst cpa sc sz wt tof ton w3 pa ps su ss sk H2 U2 res2 dem2 kin2 low2 hig2 pri2 sta2 ups2 dow2 onn2 ord2 flo2 sro2 sco2 u row nn (fun j => P ((9 + (8 * j)) + 5)) (fun j => P ((9 + (8 * j)) + 6)) = R) (hM : f_Model_fits lane many items fin W gvn costs lst sets bst u row nn U H = M) : R.1 = M.1 ∧ R.2.2.2.2.2.2.2.2.2.2.2.2.2.2.2.2.2.2.2.2.2.2.2.2.2.2.2.2.2 = M.2.1 ∧ perm3 R.2.2.2.2.2.2.2.2.1 pb R.2.2.2.2.2.2.2.2.2.1 ∧ (R.2.2.2.2.2.2.2.2.2.2.2.2.2.1 ≤ 6 ∧ R.2.2.2.2.2.2.2.2.2.2.2.2.2.2.1 ≤ 4 ∧ ∀ j, j < 4 → R.2.2.2.2.2.2.2.2.2.2.2.2.2.2.2.2.2.2.2.2.2.2.2.2.2.1 j < 4) ∧ M.2.2.1 0 = W 0 := by
  have eH : H = P 1 := hc.1
  have eU : U = P 0 := hc.2.1
  have hH : H ≤ 6 := by rw [eH]; exact hP.2.1
  have hU : U ≤ 4 := by rw [eU]; exact hP.1
  unfold f_UH_fits at hR
  unfold f_Model_fits at hM
  rcases unitC (u := u) hU with ⟨k, hk, rfl, t1, t2⟩ | ⟨t1, t2⟩
  rotate_left
  · rw [t1, iteF (show ¬ (1 : Int32) = 0 by decide)] at hR
    rw [t2, iteT (show (0 : Int32) = 0 from rfl)] at hM
    subst hR hM
    exact ⟨rfl, rfl, hpm, ⟨hH2, hU2, hO2⟩, rfl⟩
  rw [t1, iteT (show (0 : Int32) = 0 from rfl)] at hR
  rw [t2, iteF (show ¬ (1 : Int32) = 0 by decide)] at hM
  rcases rowC (u := row) with ⟨r, hr8, rfl, s1, s2⟩ | ⟨s1, s2⟩
  rotate_left
  · rw [s1, iteF (show ¬ (1 : Int32) = 0 by decide)] at hR
    rw [s2, iteT (show (0 : Int32) = 0 from rfl)] at hM
    subst hR hM
    exact ⟨rfl, rfl, hpm, ⟨hH2, hU2, hO2⟩, rfl⟩
  rw [s1, iteT (show (0 : Int32) = 0 from rfl)] at hR
  rw [s2, iteF (show ¬ (1 : Int32) = 0 by decide)] at hM
  by_cases z1 : nn < 1
  · rw [if_pos z1] at hR
    have e : f_Model_in nn 1 (nI H) = 0 := by unfold f_Model_in; rw [if_pos z1]
    rw [e, iteT (show (0 : Int32) = 0 from rfl)] at hM
    subst hR hM
    exact ⟨rfl, rfl, hpm, ⟨hH2, hU2, hO2⟩, rfl⟩
  by_cases z2 : nI H < nn
  · rw [if_neg z1, if_pos z2] at hR
    have e : f_Model_in nn 1 (nI H) = 0 := by unfold f_Model_in; rw [if_neg z1, if_pos z2]
    rw [e, iteT (show (0 : Int32) = 0 from rfl)] at hM
    subst hR hM
    exact ⟨rfl, rfl, hpm, ⟨hH2, hU2, hO2⟩, rfl⟩
  rw [if_neg z1, if_neg z2] at hR
  have e : f_Model_in nn 1 (nI H) = 1 := by unfold f_Model_in; rw [if_neg z1, if_neg z2]
  rw [e, iteF (show ¬ (1 : Int32) = 0 by decide)] at hM
  obtain ⟨n, hn1, hn2, rfl⟩ := geN (N := H) (by omega) z1 z2
  rw [nI_clamp (show k < 2147483648 by omega), nI_clamp (show r < 2147483648 by omega), nI_clamp (show n < 2147483648 by omega)] at hR hM
  rcases missC hr hr8 with ⟨a1, a2⟩ | ⟨a1, a2, a3, a4, a5, a6, a7⟩
  · rw [a1, iteF (show ¬ (1 : Int32) = 0 by decide), lt_eq] at hR
    rw [a2, iteF (show ¬ (1 : Int32) = 0 by decide), lt_eq] at hM
    subst hR hM
    exact ⟨rfl, rfl, hpm, ⟨hH2, hU2, hO2⟩, rfl⟩
  rw [a1, iteT (show (0 : Int32) = 0 from rfl)] at hR
  rw [a2, iteT (show (0 : Int32) = 0 from rfl)] at hM
  rcases lackC (i := 0) (n := nI n) a3 with ⟨b1, b2⟩ | ⟨b1, b2⟩
  · rw [b1, iteF (show ¬ (1 : Int32) = 0 by decide), lt_eq] at hR
    rw [b2, iteT (show (0 : Int32) = 0 from rfl), lt_eq] at hM
    subst hR hM
    exact ⟨rfl, rfl, hpm, ⟨hH2, hU2, hO2⟩, rfl⟩
  rw [b1, iteT (show (0 : Int32) = 0 from rfl)] at hR
  rw [b2, iteF (show ¬ (1 : Int32) = 0 by decide)] at hM
  unfold f_UH_kindsThatFit at hR
  have kl := cD_like (R := f_Day_becomeLike dem2 kin2 low2 hig2 pri2 sta2 ups2 dow2 onn2 ord2 flo2 sro2 sco2 H U res dem kin low hig pri sta ups dow onn) hP hc hO2 rfl
  generalize f_Day_becomeLike dem2 kin2 low2 hig2 pri2 sta2 ups2 dow2 onn2 ord2 flo2 sro2 sco2 H U res dem kin low hig pri sta ups dow onn = B at hR kl
  obtain ⟨k1, k2⟩ := kl
  rw [lt_eq, lt_eq] at hR
  generalize hA : f_UH_kindsThatFit_L17 con cst B.1 B.2.1 B.2.2.1 B.2.2.2.1 B.2.2.2.2.2.1 B.2.2.2.2.2.2.1 B.2.2.2.2.2.2.2.1 B.2.2.2.2.2.2.2.2.1 (it r) (fun j => P ((9 + (8 * j)) + 5)) (fun j => P ((9 + (8 * j)) + 6)) k n 1 (0 : Int32) cpa sc sz wt tof ton w3 pa ps su ss sk B.2.2.2.2.1 B.2.2.2.2.2.2.2.2.2.2.2.2.1 B.2.2.2.2.2.2.2.2.2.2.2.2.2.1 B.2.2.2.2.2.2.2.2.2.2.2.2.2.2.1 B.2.2.2.2.2.2.2.2.2.2.2.2.2.2.2 ((5 + 1) - 1) = A at hR
  generalize hN : f_Model_fits_L81 items U H n k r n 1 (0 : Int32) (va_up W 2 (f_copies (W 0) (W 2) 0 0)) gvn costs lst sets bst (6 - 1) = N at hM
  have x1 : B.1 = H := k1.1.trans eH.symm
  have x2 : B.2.1 = U := k1.2.1.trans eU.symm
  rw [← x1, ← x2] at hN
  obtain ⟨c1, c2, c3, c4, Q, d1, d2, d3, d4⟩ := fk_L (P := P) (u := k) (n := n) (r := r) (f := it r) hP (show k < P 0 by omega) (show n ≤ P 1 by omega) k1 k2 ht hpm a7 (fun j hj _ => by rw [vu_self, copies0 hj]; exact hm j hj) 5 (Nat.le_refl _) A hA N hN
  rw [lt_eq, lt_eq] at hM
  rw [lt_eq] at hR
  subst hR hM
  refine ⟨c1, rfl, c2, ⟨by dsimp only; omega, by dsimp only; omega, d3.2.1⟩, by dsimp only; rw [c4 0 (by decide), vu_ne (by decide)]⟩
end FIT
theorem s_fits {G : mG} {h : mHp} {x b : Nat} (I : INV h x b) (u row n : Int32) : STP G x b 5 7 mX7_fits mX8_fits [.int u, .int row, .int n] h := by
  obtain ⟨hxb, fin, lf, kn, ik, it, lan, siz, tape, ln, P, K, afi, asz, Z, left, nl, lane, many, items, spare, fp, mat, mst, tok, mval, W, past, imgs, kept, gvn, costs, lst, sets, bst, mlo, mal, mpr, lak, trc, C, M, r1, ⟨r2, r2b⟩, r3, r4, ⟨r5, r5b, r5c⟩, ⟨r6, r6b⟩, r7⟩ := I
  obtain ⟨v0, v1, v2, v3, v4, v5, v6, v7, v8, v9, v10, v11⟩ := id C
  obtain ⟨H, U, res, dem, kin, low, hig, pri, sta, ups, dow, onn, ord, flo, sro, sco, vd, hP, hc, hs⟩ := v3
  have hU : U ≤ 4 := by rw [hc.2.1]; exact hP.1
  have hH : H ≤ 6 := by rw [hc.1]; exact hP.2.1
  have w0 : W 0 0 = nI U := by rw [r3 0 (by omega), hc.2.1]
  have w1 : W 0 1 = nI H := by rw [r3 1 (by omega), hc.1]
  obtain ⟨con, cst, cpa, car, sc, sz, wt, tof, ton, w3, pa, pb, ps, su, ss, sk, vs, ht, hpm⟩ := v9
  obtain ⟨hup, hdn⟩ := puP hP hc
  obtain ⟨H2, U2, res2, dem2, kin2, low2, hig2, pri2, sta2, ups2, dow2, onn2, ord2, flo2, sro2, sco2, ve, hH2, hU2, hO2⟩ := v4
  have k1 := Ret.hyp3 vs ve v0 (c_UH_fits (G := G) (h := h) (u := u) (row := row) (n := n) v1 vd (by omega) (by omega) (by omega) (by omega) (by omega) (by omega) (by omega) (by omega) (by omega) (by omega) (by omega) (by omega) hpm.1 hpm.2.2.1 hU hH hup hdn hs.2.1 hO2 (fun j hj => by
    obtain ⟨z1, z2⟩ := r1 j hj
    rcases z2 with ⟨z2, -⟩ | ⟨z2, -⟩
    · exact Or.inl z2
    · exact Or.inr ⟨_, z1, z2⟩))
  generalize hR : f_UH_fits fin it siz H U res dem kin low hig pri sta ups dow onn con cst cpa sc sz wt tof ton w3 pa ps su ss sk H2 U2 res2 dem2 kin2 low2 hig2 pri2 sta2 ups2 dow2 onn2 ord2 flo2 sro2 sco2 u row n (fun j => P ((9 + (8 * j)) + 5)) (fun j => P ((9 + (8 * j)) + 6)) = R at k1
  have k2 := fun h1 (M1 : isV h1 b (modL b lane many items spare fin tape ln lf fp mat mst tok mval W past asz imgs kept gvn costs lst sets bst mlo mal mpr lak trc nl)) => RetB.hyp M1 (c_Model_fits (G := G) (u := u) (row := row) (n := n) w0 hU w1 hH (fun j hj => (r1 j hj).1))
  generalize hM : f_Model_fits lane many items fin W gvn costs lst sets bst u row n U H = N at k2
  obtain ⟨e, e2, m1, ⟨t1, t2, t3⟩, m3⟩ := fits_R hP hc hs r3 ht hpm hH2 hU2 hO2 r1 hR hM
  rw [e, e2] at k1
  exact ⟨_, _, _, k1, k2 _ (mV_ov (n := 1) (a := x) rfl (by omega) (mV_ov (n := 14) (a := x + 29) rfl (by omega) (mV_ov (n := 21) (a := x + 298) rfl (by omega) M))), ⟨hxb, _, _, _, _, _, _, _, _, _, _, _, _, _, _, _, _, _, _, _, _, _, _, _, _, _, _, _, _, _, _, _, _, _, _, _, _, _, _, _, CI_m hxb (CI_x (CI_e (CI_s C ht m1) t1 t2 t3)), ov_isV, ⟨r1, ⟨r2, r2b⟩, by rw [m3]; exact r3, r4, ⟨r5, r5b, r5c⟩, ⟨r6, r6b⟩, r7⟩⟩⟩
