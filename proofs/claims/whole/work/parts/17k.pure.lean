theorem whC {H : Nat} {wh : Int32} (hH : H ≤ 6) : (wh < -1 ∧ ¬ wh = -1 ∧ f_Model_isHour wh H = 0) ∨ wh = -1 ∨ (∃ k, k < H ∧ wh = nI k ∧ ¬ wh < -1 ∧ wh < nI H ∧ ¬ wh < 0 ∧ ¬ wh = -1 ∧ f_Model_isHour wh H = 1) ∨ (¬ wh < -1 ∧ ¬ wh < nI H ∧ ¬ wh = -1 ∧ f_Model_isHour wh H = 0) := by
  have n1 : (-1 : Int32).toInt = -1 := by decide
  have n0 : (0 : Int32).toInt = 0 := by decide
  rcases inC (v := wh) (N := H) (by omega) with ⟨k, h1, h2, h3⟩ | ⟨h1, h2⟩
  · refine Or.inr (Or.inr (Or.inl ⟨k, h1, h2, ?_, ?_, ?_, ?_, h3⟩))
    · rw [h2]; exact fun z => nI_nneg (show k < 2 ^ 31 by omega) (Int32.lt_iff_toInt_lt.mpr (by have := Int32.lt_iff_toInt_lt.mp z; omega))
    · rw [h2]; exact nI_lt h1 (by omega)
    · rw [h2]; exact nI_nneg (by omega)
    · intro z
      have := nI_nneg (show k < 2 ^ 31 by omega)
      rw [← h2, z] at this
      exact this (by decide)
  · by_cases c : wh = -1
    · exact Or.inr (Or.inl c)
    · by_cases d : wh < -1
      · exact Or.inl ⟨d, c, h1⟩
      · refine Or.inr (Or.inr (Or.inr ⟨d, ?_, c, h1⟩))
        rcases h2 with z | z
        · exfalso
          have z2 := Int32.lt_iff_toInt_lt.mp z
          have d2 : ¬ wh.toInt < -1 := fun y => d (Int32.lt_iff_toInt_lt.mpr (by omega))
          exact c (Int32.toInt_inj.mp (by omega))
        · exact z
section LNS
variable {P : Nat → Nat} {W : Nat → Nat → Int32} {H U : Nat} {res : Int32} {dem kin low hig pri sta ups dow onn : Nat → Int32} {ord : Nat → Nat} {flo sro sco : Nat → Int32}
theorem lnOK_of (hP : nOK P) (hm : mD (W 0) P) (hc : cD P H U res dem kin low hig pri sta ups dow onn) (hs : cS P ord flo sro sco) : ∀ u, u < U → lnOK W 0 H u kin hig pri ups dow flo sro sco := by
  have hu := uOK_of hP hm hc hs
  have hk := keeps_R hP hm hc
  intro u hlt
  obtain ⟨⟨a1, a2, a3, a4, a5⟩, ⟨b1, b2, b3, b4, b5⟩, -⟩ := hu u hlt
  exact ⟨a1.trans b1.symm, a2.trans b3.symm, a3.trans b4.symm, a4.trans b5.symm, a5.trans b2.symm, hk u hlt⟩
theorem tp_sp {f : Nat → Int32} {i : Nat} {lp : Nat → Int64} : ∀ n h, h < n → f_Lone_takePrices_L3 f i lp n h = (f (i + h)).toInt64 := by
  intro n
  induction n with
  | zero => intro h hh; exact absurd hh (Nat.not_lt_zero _)
  | succ n ih =>
    intro h hh
    show f_Lone_takePrices_L3s f i n (f_Lone_takePrices_L3 f i lp n) h = _
    unfold f_Lone_takePrices_L3s
    by_cases c : h = n
    · rw [c, vl_s]
    · rw [vl_n c]; exact ih h (by omega)
theorem l77_sp {items : Nat → Int32} {r i : Nat} {mpr : Nat → Int64} : ∀ n h, h < n → f_Model_alone_L77 items r i mpr n h = (items (40 * r + i + h)).toInt64 := by
  intro n
  induction n with
  | zero => intro h hh; exact absurd hh (Nat.not_lt_zero _)
  | succ n ih =>
    intro h hh
    show f_Model_alone_L77s items r i n (f_Model_alone_L77 items r i mpr n) h = _
    unfold f_Model_alone_L77s
    by_cases c : h = n
    · rw [c, vl_s]
    · rw [vl_n c]; exact ih h (by omega)
theorem l61_eq {items : Nat → Int32} {r i : Nat} {mpr : Nat → Int64} : ∀ n, f_Model_bound_L61 items r i mpr n = f_Model_alone_L77 items r i mpr n := by
  intro n
  induction n with
  | zero => rfl
  | succ n ih =>
    show f_Model_bound_L61s items r i n (f_Model_bound_L61 items r i mpr n) = f_Model_alone_L77s items r i n (f_Model_alone_L77 items r i mpr n)
    rw [ih]
    rfl
theorem moved_R {lp lg lz mpr lak : Nat → Int64} {ls mlo : Int64} {lo mal n wh : Int32} (hP : nOK P) (hm : mD (W 0) P) (hc : cD P H U res dem kin low hig pri sta ups dow onn) (hs : cS P ord flo sro sco) : (f_UH_moved H U dem kin hig pri ups dow flo sro sco lp lg lz ls lo n wh).1 = (f_Model_moved W mlo mal mpr lak n wh U H).1 := by
  have hln := lnOK_of hP hm hc hs
  have hdd := dem_facts hP hm hc
  have hdc := dayC hP hm hc
  have hH : H ≤ 6 := by rw [hc.1]; exact hP.2.1
  unfold f_UH_moved f_Model_moved f_Model_in
  rcases hdc with ⟨g1, g2, -⟩ | ⟨g1, g2, -⟩
  · rw [g1, g2, iteF (show ¬ (1 : Int32) = 0 by decide), iteT (show (0 : Int32) = 0 from rfl)]
  · rw [g1, g2, iteT (show (0 : Int32) = 0 from rfl), iteF (show ¬ (1 : Int32) = 0 by decide)]
    by_cases d1 : n < 0
    · rw [if_pos d1, if_pos d1, iteT (show (0 : Int32) = 0 from rfl)]
    by_cases d2 : 12 < n
    · rw [if_neg d1, if_pos d2, if_neg d1, if_pos d2, iteT (show (0 : Int32) = 0 from rfl)]
    rw [if_neg d1, if_neg d2, if_neg d1, if_neg d2, iteF (show ¬ (1 : Int32) = 0 by decide)]
    obtain ⟨m1, m2⟩ := moves_eq (lp := lp) (lg := lg) (lz := lz) (ls := ls) (lo := lo) (mlo := mlo) (mal := mal) (mpr := mpr) (lak := lak) (n := n.toNatClampNeg) hH hln (fun h hh => (hdd h hh).2.1.trans (hdd h hh).1.symm)
    rcases whC (wh := wh) hH with ⟨w1, w2, w3⟩ | w1 | ⟨k, w1, w2, w3, w4, w5, w6, w7⟩ | ⟨w1, w2, w3, w4⟩
    · rw [if_pos w1, if_neg w2, w3, iteT (show (0 : Int32) = 0 from rfl)]
    · rw [w1, iteF (show ¬ (-1 : Int32) < -1 by decide), iteT (show (-1 : Int32) < nI H from Int32.lt_iff_toInt_lt.mpr (by have := pk_sub_toInt (a := H) (b := 0) (by omega) (by omega); rw [pk_sub (Nat.zero_le _), Nat.sub_zero] at this; rw [this]; show (-1 : Int32).toInt < _; rw [show (-1 : Int32).toInt = -1 by decide]; omega)), lt_eq, iteT (show (-1 : Int32) < 0 by decide), iteT (show (-1 : Int32) = -1 from rfl)]
      dsimp only
      rw [iteT (show (-1 : Int32) = -1 from rfl)]
      dsimp only
      rw [m1]
    · rw [if_neg w3, if_pos w4, lt_eq, if_neg w5, if_neg w6, w7, iteF (show ¬ (1 : Int32) = 0 by decide)]
      dsimp only
      rw [if_neg w6]
      dsimp only
      rw [w2, nI_clamp (by omega), m2 k w1]
    · rw [if_neg w1, if_neg w2, if_neg w3, w4, iteT (show (0 : Int32) = 0 from rfl)]
theorem alone_R {it : Nat → Nat → Int32} {lan siz lane : Nat → Int32} {many : Nat → Nat} {items : Nat → Int32} {fin : Int32} {lp lz mpr : Nat → Int64} {ls mlo : Int64} {lo mal u row i wh : Int32} (hP : nOK P) (hm : mD (W 0) P) (hc : cD P H U res dem kin low hig pri sta ups dow onn) (hs : cS P ord flo sro sco) (r1 : rR it lan siz lane many items) : (f_UH_alone fin it siz H U kin hig pri ups dow flo sro sco lp lz ls lo u row i wh).1 = (f_Model_alone lane many items fin W mlo mal mpr u row i wh U H).1 ∧ (f_UH_alone fin it siz H U kin hig pri ups dow flo sro sco lp lz ls lo u row i wh).2.2.2.2.2 = (f_Model_alone lane many items fin W mlo mal mpr u row i wh U H).2.1 := by
  have hln := lnOK_of hP hm hc hs
  have hH : H ≤ 6 := by rw [hc.1]; exact hP.2.1
  have hU : U ≤ 4 := by rw [hc.2.1]; exact hP.1
  unfold f_UH_alone f_Model_alone
  rcases unitC (u := u) hU with ⟨j, hj, rfl, t1, t2⟩ | ⟨t1, t2⟩
  · rw [t1, t2, iteT (show (0 : Int32) = 0 from rfl), iteF (show ¬ (1 : Int32) = 0 by decide)]
    rcases rowC (u := row) with ⟨r, hr, rfl, g1, g2⟩ | ⟨g1, g2⟩
    · rw [g1, g2, iteT (show (0 : Int32) = 0 from rfl), iteF (show ¬ (1 : Int32) = 0 by decide), nI_clamp (show r < 2 ^ 31 by omega), nI_clamp (show j < 2 ^ 31 by omega)]
      have hw : (wh < -2 ∧ f_Model_in wh (-2) (nI H - 1) = 0) ∨ (¬ wh < -2 ∧ ¬ wh < nI H ∧ f_Model_in wh (-2) (nI H - 1) = 0) ∨ (¬ wh < -2 ∧ wh < nI H ∧ f_Model_in wh (-2) (nI H - 1) = 1) := by
        have e1 : (nI H - nI 1).toInt = (H : Int) - (1 : Nat) := pk_sub_toInt (by omega) (by omega)
        have e2 : (nI H - nI 0).toInt = (H : Int) - (0 : Nat) := pk_sub_toInt (by omega) (by omega)
        rw [pk_sub (Nat.zero_le _), Nat.sub_zero] at e2
        unfold f_Model_in
        by_cases a : wh < -2
        · exact Or.inl ⟨a, if_pos a⟩
        · by_cases b : wh < nI H
          · refine Or.inr (Or.inr ⟨a, b, ?_⟩)
            rw [if_neg a]
            refine if_neg (fun z => ?_)
            have z1 := Int32.lt_iff_toInt_lt.mp (show nI H - nI 1 < wh from z)
            have b1 := Int32.lt_iff_toInt_lt.mp b
            omega
          · refine Or.inr (Or.inl ⟨a, b, ?_⟩)
            rw [if_neg a]
            refine if_pos (show nI H - nI 1 < wh from Int32.lt_iff_toInt_lt.mpr ?_)
            have b1 : ¬ wh.toInt < (nI H).toInt := fun y => b (Int32.lt_iff_toInt_lt.mpr y)
            omega
      rcases hw with ⟨w1, w2⟩ | ⟨w1, w2, w3⟩ | ⟨w1, w2, w3⟩
      · rw [if_pos w1, w2, iteT (show (0 : Int32) = 0 from rfl)]
        exact ⟨rfl, rfl⟩
      · rw [if_neg w1, if_neg w2, w3, iteT (show (0 : Int32) = 0 from rfl)]
        exact ⟨rfl, rfl⟩
      · rw [if_neg w1, if_pos w2, w3, iteF (show ¬ (1 : Int32) = 0 by decide)]
        rcases missC r1 hr with ⟨m1, m2⟩ | ⟨m1, m2, m3, m4, m5, m6, m7⟩
        · rw [m1, m2, iteF (show ¬ (1 : Int32) = 0 by decide), iteF (show ¬ (1 : Int32) = 0 by decide)]
          exact ⟨rfl, rfl⟩
        · rw [m1, m2, iteT (show (0 : Int32) = 0 from rfl), iteT (show (0 : Int32) = 0 from rfl)]
          rcases lackC (i := i) (n := nI H) m3 with ⟨l1, l2⟩ | ⟨l1, l2⟩
          · rw [l1, l2, iteF (show ¬ (1 : Int32) = 0 by decide), iteT (show (0 : Int32) = 0 from rfl)]
            exact ⟨rfl, rfl⟩
          · rw [l1, l2, iteT (show (0 : Int32) = 0 from rfl), iteF (show ¬ (1 : Int32) = 0 by decide)]
            obtain ⟨a, c, rfl, ec, e3⟩ := part_nat m4 l2
            have hcH : c = H := ((nI_eq (by omega) (by omega)).mp ec).symm
            subst hcH
            rw [nI_clamp (show a < 2 ^ 31 by omega), lt_eq]
            have hp : ∀ h, h < c → f_Lone_takePrices lp (it r) a c h = f_Model_alone_L77 items r a mpr c h := fun h hh => by
              unfold f_Lone_takePrices
              rw [tp_sp c h hh, l77_sp c h hh, m7 (a + h) (by omega), Nat.add_assoc]
            obtain ⟨d1, s, d2, d3⟩ := dec_eq (lp := f_Lone_takePrices lp (it r) a c) (mpr := f_Model_alone_L77 items r a mpr c) (lz := lz) (ls := ls) (mlo := mlo) (mal := mal) hH (hln j hj) hp
            generalize f_Lone_takePrices lp (it r) a c = q1 at hp d1
            generalize f_Lone_decide q1 lz ls c kin hig pri ups dow flo sro sco j = q2 at d1
            rw [lt_eq]
            dsimp only
            rw [d1]
            generalize f_Model_goesAlone W mlo mal (f_Model_alone_L77 items r a mpr c) j 0 c = q3 at d3
            by_cases x1 : wh = -2
            · rw [if_pos x1, if_pos x1]
              exact ⟨rfl, rfl⟩
            by_cases x2 : wh = -1
            · rw [if_neg x1, if_pos x2, if_neg x1, if_pos x2]
              exact ⟨rfl, rfl⟩
            rw [if_neg x1, if_neg x2, if_neg x1, if_neg x2]
            dsimp only
            have hwn : ∃ k, k < c ∧ wh = nI k := by
              refine lt_nat (by omega) (fun z => ?_) w2
              have z1 := Int32.lt_iff_toInt_lt.mp z
              have a1 : ¬ wh.toInt < -2 := fun y => w1 (Int32.lt_iff_toInt_lt.mpr (by rw [show (-2 : Int32).toInt = -2 by decide]; exact y))
              have z0 : (0 : Int32).toInt = 0 := by decide
              have a2 : wh.toInt = -2 ∨ wh.toInt = -1 := by omega
              rcases a2 with y | y
              · exact x1 (Int32.toInt_inj.mp (by rw [y]; decide))
              · exact x2 (Int32.toInt_inj.mp (by rw [y]; decide))
            obtain ⟨k, hk, rfl⟩ := hwn
            rw [nI_clamp (by omega), d3]
            exact ⟨gi_eq d2 (by omega) (hln j hj) (hp k hk), rfl⟩
    · rw [g1, g2, iteF (show ¬ (1 : Int32) = 0 by decide), iteT (show (0 : Int32) = 0 from rfl)]
      exact ⟨rfl, rfl⟩
  · rw [t1, t2, iteF (show ¬ (1 : Int32) = 0 by decide), iteT (show (0 : Int32) = 0 from rfl)]
    exact ⟨rfl, rfl⟩
theorem bound_R {it : Nat → Nat → Int32} {lan siz lane : Nat → Int32} {many : Nat → Nat} {items : Nat → Int32} {fin : Int32} {lp lg lz mpr : Nat → Int64} {ls mlo : Int64} {lo mal row i : Int32} (hP : nOK P) (hm : mD (W 0) P) (hc : cD P H U res dem kin low hig pri sta ups dow onn) (hs : cS P ord flo sro sco) (r1 : rR it lan siz lane many items) : (f_UH_bound fin it siz H U dem kin hig pri ups dow flo sro sco lp lg lz ls lo row i).1 = (f_Model_bound lane many items fin W mlo mal mpr row i U H).1 ∧ (f_UH_bound fin it siz H U dem kin hig pri ups dow flo sro sco lp lg lz ls lo row i).2.2.2.2.2.2 = (f_Model_bound lane many items fin W mlo mal mpr row i U H).2.1 := by
  have hln := lnOK_of hP hm hc hs
  have hdd := dem_facts hP hm hc
  have hdc := dayC hP hm hc
  have hH : H ≤ 6 := by rw [hc.1]; exact hP.2.1
  unfold f_UH_bound f_Model_bound
  rcases hdc with ⟨g1, g2, -⟩ | ⟨g1, g2, -⟩
  · rw [g1, g2, iteF (show ¬ (1 : Int32) = 0 by decide), iteT (show (0 : Int32) = 0 from rfl)]
    exact ⟨rfl, rfl⟩
  · rw [g1, g2, iteT (show (0 : Int32) = 0 from rfl), iteF (show ¬ (1 : Int32) = 0 by decide)]
    rcases rowC (u := row) with ⟨r, hr, rfl, g1, g2⟩ | ⟨g1, g2⟩
    · rw [g1, g2, iteT (show (0 : Int32) = 0 from rfl), iteF (show ¬ (1 : Int32) = 0 by decide), nI_clamp (show r < 2 ^ 31 by omega)]
      rcases missC r1 hr with ⟨m1, m2⟩ | ⟨m1, m2, m3, m4, m5, m6, m7⟩
      · rw [m1, m2, iteF (show ¬ (1 : Int32) = 0 by decide), iteF (show ¬ (1 : Int32) = 0 by decide)]
        exact ⟨rfl, rfl⟩
      · rw [m1, m2, iteT (show (0 : Int32) = 0 from rfl), iteT (show (0 : Int32) = 0 from rfl)]
        rcases lackC (i := i) (n := nI H) m3 with ⟨l1, l2⟩ | ⟨l1, l2⟩
        · rw [l1, l2, iteF (show ¬ (1 : Int32) = 0 by decide), iteT (show (0 : Int32) = 0 from rfl)]
          exact ⟨rfl, rfl⟩
        · rw [l1, l2, iteT (show (0 : Int32) = 0 from rfl), iteF (show ¬ (1 : Int32) = 0 by decide)]
          obtain ⟨a, c, rfl, ec, e3⟩ := part_nat m4 l2
          have hcH : c = H := ((nI_eq (by omega) (by omega)).mp ec).symm
          subst hcH
          rw [nI_clamp (show a < 2 ^ 31 by omega), lt_eq, l61_eq]
          have hp : ∀ h, h < c → f_Lone_takePrices lp (it r) a c h = f_Model_alone_L77 items r a mpr c h := fun h hh => by
            unfold f_Lone_takePrices
            rw [tp_sp c h hh, l77_sp c h hh, m7 (a + h) (by omega), Nat.add_assoc]
          obtain ⟨b1, -⟩ := bound_eq (W := W) (wi := 0) (U := U) (lp := f_Lone_takePrices lp (it r) a c) (mpr := f_Model_alone_L77 items r a mpr c) (lg := lg) (lz := lz) (ls := ls) (lo := lo) (mlo := mlo) (mal := mal) hH hln (fun h hh => (hdd h hh).2.1.trans (hdd h hh).1.symm) hp
          rw [lt_eq]
          dsimp only
          exact ⟨b1, rfl⟩
    · rw [g1, g2, iteF (show ¬ (1 : Int32) = 0 by decide), iteT (show (0 : Int32) = 0 from rfl)]
      exact ⟨rfl, rfl⟩
end LNS
theorem s_moved {G : mG} {h : mHp} {x b : Nat} (I : INV h x b) (n wh : Int32) : STP G x b 6 6 mX7_moved mX8_moved [.int n, .int wh] h := by
  obtain ⟨hxb, fin, lf, kn, ik, it, lan, siz, tape, ln, P, K, afi, asz, Z, left, nl, lane, many, items, spare, fp, mat, mst, tok, mval, W, past, imgs, kept, gvn, costs, lst, sets, bst, mlo, mal, mpr, lak, trc, C, M, r1, ⟨r2, r2b⟩, r3, r4, ⟨r5, r5b, r5c⟩, ⟨r6, r6b⟩, r7⟩ := I
  obtain ⟨v0, v1, v2, v3, v4, v5, v6, v7, v8, v9, v10, v11⟩ := id C
  obtain ⟨H, U, res, dem, kin, low, hig, pri, sta, ups, dow, onn, ord, flo, sro, sco, vd, hP, hc, hs⟩ := v3
  have hU : U ≤ 4 := by rw [hc.2.1]; exact hP.1
  have hH : H ≤ 6 := by rw [hc.1]; exact hP.2.1
  have w0 : W 0 0 = nI U := by rw [r3 0 (by omega), hc.2.1]
  have w1 : W 0 1 = nI H := by rw [r3 1 (by omega), hc.1]
  obtain ⟨lp, lg, lz, ls, lo, vl⟩ := v10
  have e := moved_R (lp := lp) (lg := lg) (lz := lz) (ls := ls) (lo := lo) (n := n) (wh := wh) (mlo := mlo) (mal := mal) (mpr := mpr) (lak := lak) hP r3 hc hs
  have k1 := Ret.hyp vl (c_UH_moved (G := G) (n := n) (wh := wh) v0 vd (by omega) (by omega) hU hH)
  rw [e] at k1
  exact ⟨_, _, _, k1, RetB.hyp (mV_ov (n := 4) (a := x + 319) rfl (by omega) M) (c_Model_moved w0 hU w1 hH), ⟨hxb, _, _, _, _, _, _, _, _, _, _, _, _, _, _, _, _, _, _, _, _, _, _, _, _, _, _, _, _, _, _, _, _, _, _, _, _, _, _, _, CI_m hxb (CI_l C), ov_isV, ⟨r1, ⟨r2, r2b⟩, r3, r4, ⟨r5, r5b, r5c⟩, ⟨r6, r6b⟩, r7⟩⟩⟩
theorem s_alone {G : mG} {h : mHp} {x b : Nat} (I : INV h x b) (u row i wh : Int32) : STL G x b 4 4 mX7_alone mX8_alone [.int u, .int row, .int i, .int wh] h := by
  obtain ⟨hxb, fin, lf, kn, ik, it, lan, siz, tape, ln, P, K, afi, asz, Z, left, nl, lane, many, items, spare, fp, mat, mst, tok, mval, W, past, imgs, kept, gvn, costs, lst, sets, bst, mlo, mal, mpr, lak, trc, C, M, r1, ⟨r2, r2b⟩, r3, r4, ⟨r5, r5b, r5c⟩, ⟨r6, r6b⟩, r7⟩ := I
  obtain ⟨v0, v1, v2, v3, v4, v5, v6, v7, v8, v9, v10, v11⟩ := id C
  obtain ⟨H, U, res, dem, kin, low, hig, pri, sta, ups, dow, onn, ord, flo, sro, sco, vd, hP, hc, hs⟩ := v3
  have hU : U ≤ 4 := by rw [hc.2.1]; exact hP.1
  have hH : H ≤ 6 := by rw [hc.1]; exact hP.2.1
  have w0 : W 0 0 = nI U := by rw [r3 0 (by omega), hc.2.1]
  have w1 : W 0 1 = nI H := by rw [r3 1 (by omega), hc.1]
  obtain ⟨lp, lg, lz, ls, lo, vl⟩ := v10
  obtain ⟨e1, e2⟩ := alone_R (fin := fin) (lp := lp) (lz := lz) (ls := ls) (lo := lo) (u := u) (row := row) (i := i) (wh := wh) (mlo := mlo) (mal := mal) (mpr := mpr) hP r3 hc hs r1
  have k1 := Ret.hyp2 vl v0 (c_UH_alone (G := G) (u := u) (row := row) (i := i) (wh := wh) v1 vd (by omega) (by omega) (by omega) (by omega) (by omega) (by omega) hU hH (rR_siz r1))
  rw [e1, e2] at k1
  exact ⟨_, _, _, k1, RetB.hyp (mV_ov (n := 1) (a := x) rfl (by omega) (mV_ov (n := 4) (a := x + 319) rfl (by omega) M)) (c_Model_alone w0 hU w1 hH (fun j hj => (r1 j hj).1)), ⟨hxb, _, _, _, _, _, _, _, _, _, _, _, _, _, _, _, _, _, _, _, _, _, _, _, _, _, _, _, _, _, _, _, _, _, _, _, _, _, _, _, CI_m hxb (CI_x (CI_l C)), ov_isV, ⟨r1, ⟨r2, r2b⟩, r3, r4, ⟨r5, r5b, r5c⟩, ⟨r6, r6b⟩, r7⟩⟩⟩
theorem s_bound {G : mG} {h : mHp} {x b : Nat} (I : INV h x b) (row i : Int32) : STL G x b 5 5 mX7_bound mX8_bound [.int row, .int i] h := by
  obtain ⟨hxb, fin, lf, kn, ik, it, lan, siz, tape, ln, P, K, afi, asz, Z, left, nl, lane, many, items, spare, fp, mat, mst, tok, mval, W, past, imgs, kept, gvn, costs, lst, sets, bst, mlo, mal, mpr, lak, trc, C, M, r1, ⟨r2, r2b⟩, r3, r4, ⟨r5, r5b, r5c⟩, ⟨r6, r6b⟩, r7⟩ := I
  obtain ⟨v0, v1, v2, v3, v4, v5, v6, v7, v8, v9, v10, v11⟩ := id C
  obtain ⟨H, U, res, dem, kin, low, hig, pri, sta, ups, dow, onn, ord, flo, sro, sco, vd, hP, hc, hs⟩ := v3
  have hU : U ≤ 4 := by rw [hc.2.1]; exact hP.1
  have hH : H ≤ 6 := by rw [hc.1]; exact hP.2.1
  have w0 : W 0 0 = nI U := by rw [r3 0 (by omega), hc.2.1]
  have w1 : W 0 1 = nI H := by rw [r3 1 (by omega), hc.1]
  obtain ⟨lp, lg, lz, ls, lo, vl⟩ := v10
  obtain ⟨e1, e2⟩ := bound_R (fin := fin) (lp := lp) (lg := lg) (lz := lz) (ls := ls) (lo := lo) (row := row) (i := i) (mlo := mlo) (mal := mal) (mpr := mpr) hP r3 hc hs r1
  have k1 := Ret.hyp2 vl v0 (c_UH_bound (G := G) (row := row) (i := i) v1 vd (by omega) (by omega) (by omega) (by omega) (by omega) (by omega) hU hH (rR_siz r1))
  rw [e1, e2] at k1
  exact ⟨_, _, _, k1, RetB.hyp (mV_ov (n := 1) (a := x) rfl (by omega) (mV_ov (n := 4) (a := x + 319) rfl (by omega) M)) (c_Model_bound w0 hU w1 hH (fun j hj => (r1 j hj).1)), ⟨hxb, _, _, _, _, _, _, _, _, _, _, _, _, _, _, _, _, _, _, _, _, _, _, _, _, _, _, _, _, _, _, _, _, _, _, _, _, _, _, _, CI_m hxb (CI_x (CI_l C)), ov_isV, ⟨r1, ⟨r2, r2b⟩, r3, r4, ⟨r5, r5b, r5c⟩, ⟨r6, r6b⟩, r7⟩⟩⟩
