set_option maxRecDepth 20000 in
theorem a_sizeOf1 {left : Nat → Int32} {num hi ho : Int32} : f_Asks_sizeOf left 0 num (nI 1) hi ho = (hi + (num + ho), (upd (upd (upd (upd left 0 11) 1 10) 2 21) 3 20), 4) := rfl
set_option maxRecDepth 20000 in
theorem a_markOf1 {left : Nat → Int32} {num hi ho : Int32} : f_Asks_markOf left 0 num (nI 1) hi ho = (num + ho, (upd (upd left 0 21) 1 20), 2) := rfl
set_option maxRecDepth 20000 in
theorem a_sizeOf2 {left : Nat → Int32} {num hi ho : Int32} : f_Asks_sizeOf left 0 num (nI 2) hi ho = (-(hi + 2 * (num + ho)), (upd (upd (upd (upd (upd (upd left 0 12) 1 11) 2 10) 3 24) 4 21) 5 20), 6) := rfl
set_option maxRecDepth 20000 in
theorem a_markOf2 {left : Nat → Int32} {num hi ho : Int32} : f_Asks_markOf left 0 num (nI 2) hi ho = (2 * (num + ho), (upd (upd (upd left 0 24) 1 21) 2 20), 3) := rfl
set_option maxRecDepth 20000 in
theorem a_sizeOf3 {left : Nat → Int32} {num hi ho : Int32} : f_Asks_sizeOf left 0 num (nI 3) hi ho = (hi + ((num + ho) - 1000), (upd (upd (upd (upd (upd left 0 11) 1 10) 2 22) 3 21) 4 20), 5) := rfl
set_option maxRecDepth 20000 in
theorem a_markOf3 {left : Nat → Int32} {num hi ho : Int32} : f_Asks_markOf left 0 num (nI 3) hi ho = ((num + ho) - 1000, (upd (upd (upd left 0 22) 1 21) 2 20), 3) := rfl
set_option maxRecDepth 20000 in
theorem a_sizeOf4 {left : Nat → Int32} {num hi ho : Int32} : f_Asks_sizeOf left 0 num (nI 4) hi ho = (hi - 100, (upd (upd left 0 13) 1 10), 2) := rfl
set_option maxRecDepth 20000 in
theorem a_markOf4 {left : Nat → Int32} {num hi ho : Int32} : f_Asks_markOf left 0 num (nI 4) hi ho = (num - (hi - 100), (upd (upd (upd (upd left 0 23) 1 20) 2 13) 3 10), 4) := rfl
set_option maxRecDepth 20000 in
theorem a_sizeOf5 {left : Nat → Int32} {num hi ho : Int32} : f_Asks_sizeOf left 0 num (nI 5) hi ho = (2 * (hi - 100), (upd (upd (upd left 0 14) 1 13) 2 10), 3) := rfl
set_option maxRecDepth 20000 in
theorem a_markOf5 {left : Nat → Int32} {num hi ho : Int32} : f_Asks_markOf left 0 num (nI 5) hi ho = (num - 2 * (hi - 100), (upd (upd (upd (upd (upd left 0 23) 1 20) 2 14) 3 13) 4 10), 5) := rfl
theorem m_Size1 {W : Nat → Nat → Int32} {trc : Nat → Int32} {u : Nat} (hk : f_Model_kindIn W u = nI 1) : f_Model_plainSize W trc 0 u = ((W 0) ((9 + (8 * u)) + 2) + (nI u + f_Model_ones ((W 0) ((9 + (8 * u)) + 7))), (upd (upd (upd (upd trc 0 11) 1 10) 2 21) 3 20), 4) := by
  unfold f_Model_plainSize f_Model_plainMark
  rw [hk]
  rfl
theorem m_Mark1 {W : Nat → Nat → Int32} {trc : Nat → Int32} {u : Nat} (hk : f_Model_kindIn W u = nI 1) : f_Model_plainMark W trc 0 u = (nI u + f_Model_ones ((W 0) ((9 + (8 * u)) + 7)), (upd (upd trc 0 21) 1 20), 2) := by
  unfold f_Model_plainMark
  rw [hk]
  rfl
theorem m_Size2 {W : Nat → Nat → Int32} {trc : Nat → Int32} {u : Nat} (hk : f_Model_kindIn W u = nI 2) : f_Model_plainSize W trc 0 u = (-((W 0) ((9 + (8 * u)) + 2) + 2 * (nI u + f_Model_ones ((W 0) ((9 + (8 * u)) + 7)))), (upd (upd (upd (upd (upd (upd trc 0 12) 1 11) 2 10) 3 24) 4 21) 5 20), 6) := by
  unfold f_Model_plainSize f_Model_plainMark
  rw [hk]
  rfl
theorem m_Mark2 {W : Nat → Nat → Int32} {trc : Nat → Int32} {u : Nat} (hk : f_Model_kindIn W u = nI 2) : f_Model_plainMark W trc 0 u = (2 * (nI u + f_Model_ones ((W 0) ((9 + (8 * u)) + 7))), (upd (upd (upd trc 0 24) 1 21) 2 20), 3) := by
  unfold f_Model_plainMark
  rw [hk]
  rfl
theorem m_Size3 {W : Nat → Nat → Int32} {trc : Nat → Int32} {u : Nat} (hk : f_Model_kindIn W u = nI 3) : f_Model_plainSize W trc 0 u = ((W 0) ((9 + (8 * u)) + 2) + ((nI u + f_Model_ones ((W 0) ((9 + (8 * u)) + 7))) - 1000), (upd (upd (upd (upd (upd trc 0 11) 1 10) 2 22) 3 21) 4 20), 5) := by
  unfold f_Model_plainSize f_Model_plainMark
  rw [hk]
  rfl
theorem m_Mark3 {W : Nat → Nat → Int32} {trc : Nat → Int32} {u : Nat} (hk : f_Model_kindIn W u = nI 3) : f_Model_plainMark W trc 0 u = ((nI u + f_Model_ones ((W 0) ((9 + (8 * u)) + 7))) - 1000, (upd (upd (upd trc 0 22) 1 21) 2 20), 3) := by
  unfold f_Model_plainMark
  rw [hk]
  rfl
theorem m_Size4 {W : Nat → Nat → Int32} {trc : Nat → Int32} {u : Nat} (hk : f_Model_kindIn W u = nI 4) : f_Model_waterSize W trc 0 u = ((W 0) ((9 + (8 * u)) + 2) - 100, (upd (upd trc 0 13) 1 10), 2) := by
  unfold f_Model_waterSize
  rw [hk]
  rfl
theorem m_Mark4 {W : Nat → Nat → Int32} {trc : Nat → Int32} {u : Nat} (hk : f_Model_kindIn W u = nI 4) : f_Model_waterMark W trc 0 u = (nI u - ((W 0) ((9 + (8 * u)) + 2) - 100), (upd (upd (upd (upd trc 0 23) 1 20) 2 13) 3 10), 4) := by
  unfold f_Model_waterMark f_Model_waterSize
  rw [hk]
  rfl
theorem m_Size5 {W : Nat → Nat → Int32} {trc : Nat → Int32} {u : Nat} (hk : f_Model_kindIn W u = nI 5) : f_Model_waterSize W trc 0 u = (2 * ((W 0) ((9 + (8 * u)) + 2) - 100), (upd (upd (upd trc 0 14) 1 13) 2 10), 3) := by
  unfold f_Model_waterSize
  rw [hk]
  rfl
theorem m_Mark5 {W : Nat → Nat → Int32} {trc : Nat → Int32} {u : Nat} (hk : f_Model_kindIn W u = nI 5) : f_Model_waterMark W trc 0 u = (nI u - 2 * ((W 0) ((9 + (8 * u)) + 2) - 100), (upd (upd (upd (upd (upd trc 0 23) 1 20) 2 14) 3 13) 4 10), 5) := by
  unfold f_Model_waterMark f_Model_waterSize
  rw [hk]
  rfl
theorem ask_R {P : Nat → Nat} {W : Nat → Nat → Int32} {H U : Nat} {res : Int32} {dem kin low hig pri sta ups dow onn left trc : Nat → Int32} {nl : Nat} {anm akd ahi aho u wh : Int32} {R : Int32 × (Nat → Int32) × Nat × Int32 × Int32 × Int32 × Int32} {M : Int32 × (Nat → Int32) × Nat} (hP : nOK P) (hm : mD (W 0) P) (hc : cD P H U res dem kin low hig pri sta ups dow onn) (h1 : nl ≤ 16) (h2 : ∀ i, i < nl → left i = trc i)
    (hR : f_UH_ask U kin hig onn left nl anm akd ahi aho u wh = R) (hM : f_Model_ask W trc nl u wh U = M) : R.1 = M.1 ∧ M.2.2 = R.2.2.1 ∧ R.2.2.1 ≤ 16 ∧ ∀ i, i < R.2.2.1 → R.2.1 i = M.2.1 i := by
  have hon := on_facts hP hm hc
  obtain ⟨h0, -, -, -, -, h5⟩ := hP
  obtain ⟨rfl, rfl, c2, c3, c4⟩ := hc
  unfold f_UH_ask at hR
  unfold f_Model_ask f_Model_in at hM
  rcases unitC (u := u) h0 with ⟨k, hk, rfl, g1, g2⟩ | ⟨g1, g2⟩
  · rw [g1, iteT (show (0 : Int32) = 0 from rfl), nI_clamp (by omega)] at hR
    rw [g2, iteF (show ¬ (1 : Int32) = 0 by decide), nI_clamp (by omega)] at hM
    by_cases d1 : wh < 0
    · rw [if_pos d1] at hR
      rw [if_pos d1, iteT (show (0 : Int32) = 0 from rfl)] at hM
      subst hR hM
      exact ⟨rfl, rfl, h1, h2⟩
    by_cases d2 : 1 < wh
    · rw [if_neg d1, if_pos d2] at hR
      rw [if_neg d1, if_pos d2, iteT (show (0 : Int32) = 0 from rfl)] at hM
      subst hR hM
      exact ⟨rfl, rfl, h1, h2⟩
    rw [if_neg d1, if_neg d2, lt_eq] at hR
    rw [if_neg d1, if_neg d2, iteF (show ¬ (1 : Int32) = 0 by decide)] at hM
    obtain ⟨k1, k2, k3, k4, k5, k6, k7, k8⟩ := c4 k hk
    obtain ⟨o1, o2, o3, o4⟩ := hon k hk
    unfold f_Asks_begin at hR
    dsimp only at hR
    have eh : hig k = (W 0) ((9 + (8 * k)) + 2) := by rw [k3, hm ((9 + (8 * k)) + 2) (by omega)]
    have eo : f_bitCount (onn k) = f_Model_ones ((W 0) ((9 + (8 * k)) + 7)) := by rw [o1, o2, ones_eq o4]
    have ek : f_Model_kindIn W k = nI (P (9 + (8 * k))) := hm (9 + (8 * k)) (by omega)
    rw [k1, eh, eo] at hR
    rcases five (h5 k hk).1 with e | e | e | e | e <;> rw [e] at hR ek
    · by_cases w : wh = 0
      · rw [if_pos w, if_pos w, if_pos w, lt_eq, lt_eq, lt_eq, a_sizeOf1] at hR
        rw [if_pos w, ek, iteT (show (if nI 1 < (4 : Int32) then (0 : Int32) else (1 : Int32)) = 0 from rfl), m_Size1 ek] at hM
        subst hR hM
        refine ⟨rfl, rfl, (show (4 : Nat) ≤ 16 by decide), fun i hi => ?_⟩
        dsimp only at hi ⊢
        have hi2 : i = 0 ∨ i = 1 ∨ i = 2 ∨ i = 3 := by omega
        rcases hi2 with z | z | z | z <;> subst z <;> rfl
      · rw [if_neg w, if_neg w, if_neg w, lt_eq, lt_eq, lt_eq, a_markOf1] at hR
        rw [if_neg w, ek, iteT (show (if nI 1 < (4 : Int32) then (0 : Int32) else (1 : Int32)) = 0 from rfl), m_Mark1 ek] at hM
        subst hR hM
        refine ⟨rfl, rfl, (show (2 : Nat) ≤ 16 by decide), fun i hi => ?_⟩
        dsimp only at hi ⊢
        have hi2 : i = 0 ∨ i = 1 := by omega
        rcases hi2 with z | z <;> subst z <;> rfl
    · by_cases w : wh = 0
      · rw [if_pos w, if_pos w, if_pos w, lt_eq, lt_eq, lt_eq, a_sizeOf2] at hR
        rw [if_pos w, ek, iteT (show (if nI 2 < (4 : Int32) then (0 : Int32) else (1 : Int32)) = 0 from rfl), m_Size2 ek] at hM
        subst hR hM
        refine ⟨rfl, rfl, (show (6 : Nat) ≤ 16 by decide), fun i hi => ?_⟩
        dsimp only at hi ⊢
        have hi2 : i = 0 ∨ i = 1 ∨ i = 2 ∨ i = 3 ∨ i = 4 ∨ i = 5 := by omega
        rcases hi2 with z | z | z | z | z | z <;> subst z <;> rfl
      · rw [if_neg w, if_neg w, if_neg w, lt_eq, lt_eq, lt_eq, a_markOf2] at hR
        rw [if_neg w, ek, iteT (show (if nI 2 < (4 : Int32) then (0 : Int32) else (1 : Int32)) = 0 from rfl), m_Mark2 ek] at hM
        subst hR hM
        refine ⟨rfl, rfl, (show (3 : Nat) ≤ 16 by decide), fun i hi => ?_⟩
        dsimp only at hi ⊢
        have hi2 : i = 0 ∨ i = 1 ∨ i = 2 := by omega
        rcases hi2 with z | z | z <;> subst z <;> rfl
    · by_cases w : wh = 0
      · rw [if_pos w, if_pos w, if_pos w, lt_eq, lt_eq, lt_eq, a_sizeOf3] at hR
        rw [if_pos w, ek, iteT (show (if nI 3 < (4 : Int32) then (0 : Int32) else (1 : Int32)) = 0 from rfl), m_Size3 ek] at hM
        subst hR hM
        refine ⟨rfl, rfl, (show (5 : Nat) ≤ 16 by decide), fun i hi => ?_⟩
        dsimp only at hi ⊢
        have hi2 : i = 0 ∨ i = 1 ∨ i = 2 ∨ i = 3 ∨ i = 4 := by omega
        rcases hi2 with z | z | z | z | z <;> subst z <;> rfl
      · rw [if_neg w, if_neg w, if_neg w, lt_eq, lt_eq, lt_eq, a_markOf3] at hR
        rw [if_neg w, ek, iteT (show (if nI 3 < (4 : Int32) then (0 : Int32) else (1 : Int32)) = 0 from rfl), m_Mark3 ek] at hM
        subst hR hM
        refine ⟨rfl, rfl, (show (3 : Nat) ≤ 16 by decide), fun i hi => ?_⟩
        dsimp only at hi ⊢
        have hi2 : i = 0 ∨ i = 1 ∨ i = 2 := by omega
        rcases hi2 with z | z | z <;> subst z <;> rfl
    · by_cases w : wh = 0
      · rw [if_pos w, if_pos w, if_pos w, lt_eq, lt_eq, lt_eq, a_sizeOf4] at hR
        rw [if_pos w, ek, iteF (show ¬ (if nI 4 < (4 : Int32) then (0 : Int32) else (1 : Int32)) = 0 by decide), m_Size4 ek] at hM
        subst hR hM
        refine ⟨rfl, rfl, (show (2 : Nat) ≤ 16 by decide), fun i hi => ?_⟩
        dsimp only at hi ⊢
        have hi2 : i = 0 ∨ i = 1 := by omega
        rcases hi2 with z | z <;> subst z <;> rfl
      · rw [if_neg w, if_neg w, if_neg w, lt_eq, lt_eq, lt_eq, a_markOf4] at hR
        rw [if_neg w, ek, iteF (show ¬ (if nI 4 < (4 : Int32) then (0 : Int32) else (1 : Int32)) = 0 by decide), m_Mark4 ek] at hM
        subst hR hM
        refine ⟨rfl, rfl, (show (4 : Nat) ≤ 16 by decide), fun i hi => ?_⟩
        dsimp only at hi ⊢
        have hi2 : i = 0 ∨ i = 1 ∨ i = 2 ∨ i = 3 := by omega
        rcases hi2 with z | z | z | z <;> subst z <;> rfl
    · by_cases w : wh = 0
      · rw [if_pos w, if_pos w, if_pos w, lt_eq, lt_eq, lt_eq, a_sizeOf5] at hR
        rw [if_pos w, ek, iteF (show ¬ (if nI 5 < (4 : Int32) then (0 : Int32) else (1 : Int32)) = 0 by decide), m_Size5 ek] at hM
        subst hR hM
        refine ⟨rfl, rfl, (show (3 : Nat) ≤ 16 by decide), fun i hi => ?_⟩
        dsimp only at hi ⊢
        have hi2 : i = 0 ∨ i = 1 ∨ i = 2 := by omega
        rcases hi2 with z | z | z <;> subst z <;> rfl
      · rw [if_neg w, if_neg w, if_neg w, lt_eq, lt_eq, lt_eq, a_markOf5] at hR
        rw [if_neg w, ek, iteF (show ¬ (if nI 5 < (4 : Int32) then (0 : Int32) else (1 : Int32)) = 0 by decide), m_Mark5 ek] at hM
        subst hR hM
        refine ⟨rfl, rfl, (show (5 : Nat) ≤ 16 by decide), fun i hi => ?_⟩
        dsimp only at hi ⊢
        have hi2 : i = 0 ∨ i = 1 ∨ i = 2 ∨ i = 3 ∨ i = 4 := by omega
        rcases hi2 with z | z | z | z | z <;> subst z <;> rfl
  · rw [g1, iteF (show ¬ (1 : Int32) = 0 by decide)] at hR
    rw [g2, iteT (show (0 : Int32) = 0 from rfl)] at hM
    subst hR hM
    exact ⟨rfl, rfl, h1, h2⟩
theorem s_ask {G : mG} {h : mHp} {x b : Nat} (I : INV h x b) (u wh : Int32) : STP G x b 6 3 mX7_ask mX8_ask [.int u, .int wh] h := by
  obtain ⟨hxb, fin, lf, kn, ik, it, lan, siz, tape, ln, P, K, afi, asz, Z, left, nl, lane, many, items, spare, fp, mat, mst, tok, mval, W, past, imgs, kept, gvn, costs, lst, sets, bst, mlo, mal, mpr, lak, trc, C, M, r1, ⟨r2, r2b⟩, r3, r4, ⟨r5, r5b, r5c⟩, ⟨r6, r6b⟩, r7⟩ := I
  obtain ⟨v0, v1, v2, v3, v4, v5, v6, v7, v8, v9, v10, v11⟩ := id C
  obtain ⟨H, U, res, dem, kin, low, hig, pri, sta, ups, dow, onn, ord, flo, sro, sco, vd, hP, hc, hs⟩ := v3
  have hU : U ≤ 4 := by rw [hc.2.1]; exact hP.1
  have hH : H ≤ 6 := by rw [hc.1]; exact hP.2.1
  have w0 : W 0 0 = nI U := by rw [r3 0 (by omega), hc.2.1]
  have w1 : W 0 1 = nI H := by rw [r3 1 (by omega), hc.1]
  obtain ⟨anm, akd, ahi, aho, va⟩ := v11
  have k1 := Ret.hyp va (c_UH_ask (G := G) (u := u) (wh := wh) v0 vd (by omega) (by omega) hU r6)
  generalize hR : f_UH_ask U kin hig onn left nl anm akd ahi aho u wh = R at k1
  have k2 := fun h1 (M1 : isV h1 b (modL b lane many items spare fin tape ln lf fp mat mst tok mval W past asz imgs kept gvn costs lst sets bst mlo mal mpr lak trc nl)) => RetB.hyp M1 (c_Model_ask (G := G) (u := u) (wh := wh) w0 hU)
  generalize hM : f_Model_ask W trc nl u wh U = N at k2
  obtain ⟨e, m1, m2, m3⟩ := ask_R hP r3 hc r6 r6b hR hM
  rw [e] at k1
  rw [m1] at k2
  exact ⟨_, _, _, k1, k2 _ (mV_ov (n := 2) (a := x + 323) rfl (by omega) M), ⟨hxb, _, _, _, _, _, _, _, _, _, _, _, _, _, _, _, _, _, _, _, _, _, _, _, _, _, _, _, _, _, _, _, _, _, _, _, _, _, _, _, CI_m hxb (CI_a C), ov_isV, ⟨r1, ⟨r2, r2b⟩, r3, r4, ⟨r5, r5b, r5c⟩, ⟨m2, m3⟩, r7⟩⟩⟩
