def RLn (it : Nat → Nat → Int32) (lan siz lane : Nat → Int32) (many : Nat → Nat) (items : Nat → Int32) (tape : Nat → Int32) (ln : Nat) (W : Nat → Nat → Int32) (P : Nat → Nat) (K : Nat → Nat → Nat) (imgs kept : Nat → Int32) (afi asz : Nat) (Z : Nat → Nat → Nat) (past left trc : Nat → Int32) (nl : Nat) (ik : Int32) (kn : Int64) : Prop :=
  rR it lan siz lane many items ∧ (ln ≤ 120 ∧ ∀ i, i < ln → ¬ tape i < 0) ∧ mD (W 0) P ∧ (∀ k, k < 2 → (kept k = 0 ∧ K k 1 = 0) ∨ (¬ kept k = 0 ∧ ¬ K k 1 = 0 ∧ mD (fun i => imgs (41 * k + i)) (K k))) ∧ (afi < 16 ∧ asz ≤ 16 ∧ ∀ i, i < asz → mD (fun j => past (41 * i + j)) (Z ((afi + i) % 16))) ∧ (nl ≤ 16 ∧ ∀ i, i < nl → left i = trc i) ∧ (ik = 0 ∨ bestIs (-1000000) P kn)
def INV (h : mHp) (x b : Nat) : Prop := x + 325 ≤ b ∧ ∃ (fin lf : Int32) (kn : Int64) (ik : Int32) (it : Nat → Nat → Int32) (lan siz : Nat → Int32) (tape : Nat → Int32) (ln : Nat) (P : Nat → Nat) (K : Nat → Nat → Nat) (afi asz : Nat) (Z : Nat → Nat → Nat) (left : Nat → Int32) (nl : Nat) (lane : Nat → Int32) (many : Nat → Nat) (items : Nat → Int32) (spare : Nat → Int32) (fp : Int32) (mat : Nat) (mst : Nat) (tok : Int32) (mval : Int32) (W : Nat → Nat → Int32) (past : Nat → Int32) (imgs : Nat → Int32) (kept : Nat → Int32) (gvn : Nat → Int32) (costs : Nat → Int32) (lst : Nat → Int32) (sets : Nat → Int32) (bst : Int32) (mlo : Int64) (mal : Int32) (mpr : Nat → Int64) (lak : Nat → Int64) (trc : Nat → Int32), CI h x fin lf kn ik it lan siz tape ln P K afi asz Z left nl ∧ isV h b (modL b lane many items spare fin tape ln lf fp mat mst tok mval W past asz imgs kept gvn costs lst sets bst mlo mal mpr lak trc nl) ∧ RLn it lan siz lane many items tape ln W P K imgs kept afi asz Z past left trc nl ik kn
def hasM (h : mHp) (b : Nat) : Prop := ∃ fs : List Value, h b = some (.inr (8, fs))
def RetB (G : mG) (n : Nat) (M : mM) (b : Nat) (av : List Value) (h : mHp) (r : Option Value) (h' : mHp) : Prop := Ret G n M (.ref b :: av) h r h' ∧ hasM h b
theorem RetB.put {G : mG} {n : Nat} {M : mM} {b : Nat} {av : List Value} {H h' : mHp} {r : Option Value} {lane : Nat → Int32} {many : Nat → Nat} {items : Nat → Int32} {spare : Nat → Int32} {fin : Int32} {tape : Nat → Int32} {ln : Nat} {lf fp : Int32} {mat mst : Nat} {tok mval : Int32} {W : Nat → Nat → Int32} {past : Nat → Int32} {asz : Nat} {imgs kept gvn costs lst sets : Nat → Int32} {bst : Int32} {mlo : Int64} {mal : Int32} {mpr lak : Nat → Int64} {trc : Nat → Int32} {nl : Nat} (hv : isV H b (modL b lane many items spare fin tape ln lf fp mat mst tok mval W past asz imgs kept gvn costs lst sets bst mlo mal mpr lak trc nl)) (hR : Ret G n M (.ref b :: av) H r h') : RetB G n M b av H r h' := ⟨hR, ⟨_, hv 0 _ rfl⟩⟩
theorem RetB.hyp {G : mG} {n : Nat} {M : mM} {b : Nat} {av : List Value} {H h' : mHp} {r : Option Value} {lane : Nat → Int32} {many : Nat → Nat} {items : Nat → Int32} {spare : Nat → Int32} {fin : Int32} {tape : Nat → Int32} {ln : Nat} {lf fp : Int32} {mat mst : Nat} {tok mval : Int32} {W : Nat → Nat → Int32} {past : Nat → Int32} {asz : Nat} {imgs kept gvn costs lst sets : Nat → Int32} {bst : Int32} {mlo : Int64} {mal : Int32} {mpr lak : Nat → Int64} {trc : Nat → Int32} {nl : Nat} (hv : isV H b (modL b lane many items spare fin tape ln lf fp mat mst tok mval W past asz imgs kept gvn costs lst sets bst mlo mal mpr lak trc nl)) (hR : Ret G n M (.ref b :: av) (ov H b (modL b lane many items spare fin tape ln lf fp mat mst tok mval W past asz imgs kept gvn costs lst sets bst mlo mal mpr lak trc nl)) r h') : RetB G n M b av H r h' := RetB.put hv (Ret.hyp hv hR)
def STP (G : mG) (x b n1 n2 : Nat) (MU MM : mM) (av : List Value) (h : mHp) : Prop := ∃ (v : Int32) (h1 h2 : mHp), Ret G n1 MU (.ref x :: av) h (some (.int v)) h1 ∧ RetB G n2 MM b av h1 (some (.int v)) h2 ∧ INV h2 x b
def STL (G : mG) (x b n1 n2 : Nat) (MU MM : mM) (av : List Value) (h : mHp) : Prop := ∃ (v : Int64) (h1 h2 : mHp), Ret G n1 MU (.ref x :: av) h (some (.long v)) h1 ∧ RetB G n2 MM b av h1 (some (.long v)) h2 ∧ INV h2 x b
theorem s_fault {G : mG} {h : mHp} {x b : Nat} (I : INV h x b)  : STP G x b 0 0 mX7_fault mX8_fault [] h := by
  obtain ⟨hxb, fin, lf, kn, ik, it, lan, siz, tape, ln, P, K, afi, asz, Z, left, nl, lane, many, items, spare, fp, mat, mst, tok, mval, W, past, imgs, kept, gvn, costs, lst, sets, bst, mlo, mal, mpr, lak, trc, C, M, r1, ⟨r2, r2b⟩, r3, r4, ⟨r5, r5b, r5c⟩, ⟨r6, r6b⟩, r7⟩ := I
  obtain ⟨v0, v1, v2, v3, v4, v5, v6, v7, v8, v9, v10, v11⟩ := id C
  exact ⟨_, h, h, c_UH_fault v0, RetB.put M (c_Model_fault M), ⟨hxb, _, _, _, _, _, _, _, _, _, _, _, _, _, _, _, _, _, _, _, _, _, _, _, _, _, _, _, _, _, _, _, _, _, _, _, _, _, _, _, C, M, ⟨r1, ⟨r2, r2b⟩, r3, r4, ⟨r5, r5b, r5c⟩, ⟨r6, r6b⟩, r7⟩⟩⟩
theorem s_status {G : mG} {h : mHp} {x b : Nat} (I : INV h x b)  : STP G x b 0 0 mX7_status mX8_status [] h := by
  obtain ⟨hxb, fin, lf, kn, ik, it, lan, siz, tape, ln, P, K, afi, asz, Z, left, nl, lane, many, items, spare, fp, mat, mst, tok, mval, W, past, imgs, kept, gvn, costs, lst, sets, bst, mlo, mal, mpr, lak, trc, C, M, r1, ⟨r2, r2b⟩, r3, r4, ⟨r5, r5b, r5c⟩, ⟨r6, r6b⟩, r7⟩ := I
  obtain ⟨v0, v1, v2, v3, v4, v5, v6, v7, v8, v9, v10, v11⟩ := id C
  exact ⟨_, h, h, c_UH_status v0, RetB.put M (c_Model_status M), ⟨hxb, _, _, _, _, _, _, _, _, _, _, _, _, _, _, _, _, _, _, _, _, _, _, _, _, _, _, _, _, _, _, _, _, _, _, _, _, _, _, _, C, M, ⟨r1, ⟨r2, r2b⟩, r3, r4, ⟨r5, r5b, r5c⟩, ⟨r6, r6b⟩, r7⟩⟩⟩
theorem s_kind {G : mG} {h : mHp} {x b : Nat} (I : INV h x b) (u : Int32) : STP G x b 1 2 mX7_kind mX8_kind [.int u] h := by
  obtain ⟨hxb, fin, lf, kn, ik, it, lan, siz, tape, ln, P, K, afi, asz, Z, left, nl, lane, many, items, spare, fp, mat, mst, tok, mval, W, past, imgs, kept, gvn, costs, lst, sets, bst, mlo, mal, mpr, lak, trc, C, M, r1, ⟨r2, r2b⟩, r3, r4, ⟨r5, r5b, r5c⟩, ⟨r6, r6b⟩, r7⟩ := I
  obtain ⟨v0, v1, v2, v3, v4, v5, v6, v7, v8, v9, v10, v11⟩ := id C
  obtain ⟨H, U, res, dem, kin, low, hig, pri, sta, ups, dow, onn, ord, flo, sro, sco, vd, hP, hc, hs⟩ := v3
  have hU : U ≤ 4 := by rw [hc.2.1]; exact hP.1
  have hH : H ≤ 6 := by rw [hc.1]; exact hP.2.1
  have w0 : W 0 0 = nI U := by rw [r3 0 (by omega), hc.2.1]
  have w1 : W 0 1 = nI H := by rw [r3 1 (by omega), hc.1]
  have e := ans_kind (u := u) hP r3 hc
  refine ⟨_, h, h, ?_, RetB.put M (c_Model_kind M w0 hU), ⟨hxb, _, _, _, _, _, _, _, _, _, _, _, _, _, _, _, _, _, _, _, _, _, _, _, _, _, _, _, _, _, _, _, _, _, _, _, _, _, _, _, C, M, ⟨r1, ⟨r2, r2b⟩, r3, r4, ⟨r5, r5b, r5c⟩, ⟨r6, r6b⟩, r7⟩⟩⟩
  have k := c_UH_kind (G := G) (u := u) v0 vd hU
  rw [e] at k
  exact k
theorem s_unit {G : mG} {h : mHp} {x b : Nat} (I : INV h x b) (u wh : Int32) : STP G x b 2 3 mX7_unit mX8_unit [.int u, .int wh] h := by
  obtain ⟨hxb, fin, lf, kn, ik, it, lan, siz, tape, ln, P, K, afi, asz, Z, left, nl, lane, many, items, spare, fp, mat, mst, tok, mval, W, past, imgs, kept, gvn, costs, lst, sets, bst, mlo, mal, mpr, lak, trc, C, M, r1, ⟨r2, r2b⟩, r3, r4, ⟨r5, r5b, r5c⟩, ⟨r6, r6b⟩, r7⟩ := I
  obtain ⟨v0, v1, v2, v3, v4, v5, v6, v7, v8, v9, v10, v11⟩ := id C
  obtain ⟨H, U, res, dem, kin, low, hig, pri, sta, ups, dow, onn, ord, flo, sro, sco, vd, hP, hc, hs⟩ := v3
  have hU : U ≤ 4 := by rw [hc.2.1]; exact hP.1
  have hH : H ≤ 6 := by rw [hc.1]; exact hP.2.1
  have w0 : W 0 0 = nI U := by rw [r3 0 (by omega), hc.2.1]
  have w1 : W 0 1 = nI H := by rw [r3 1 (by omega), hc.1]
  have e := ans_unit (u := u) (wh := wh) hP r3 hc
  refine ⟨_, h, h, ?_, RetB.put M (c_Model_unit M w0 hU w1 hH), ⟨hxb, _, _, _, _, _, _, _, _, _, _, _, _, _, _, _, _, _, _, _, _, _, _, _, _, _, _, _, _, _, _, _, _, _, _, _, _, _, _, _, C, M, ⟨r1, ⟨r2, r2b⟩, r3, r4, ⟨r5, r5b, r5c⟩, ⟨r6, r6b⟩, r7⟩⟩⟩
  have k := c_UH_unit (G := G) (u := u) (wh := wh) v0 vd hU hH
  rw [e] at k
  exact k
theorem s_hour {G : mG} {h : mHp} {x b : Nat} (I : INV h x b) (hr wh : Int32) : STP G x b 3 4 mX7_hour mX8_hour [.int hr, .int wh] h := by
  obtain ⟨hxb, fin, lf, kn, ik, it, lan, siz, tape, ln, P, K, afi, asz, Z, left, nl, lane, many, items, spare, fp, mat, mst, tok, mval, W, past, imgs, kept, gvn, costs, lst, sets, bst, mlo, mal, mpr, lak, trc, C, M, r1, ⟨r2, r2b⟩, r3, r4, ⟨r5, r5b, r5c⟩, ⟨r6, r6b⟩, r7⟩ := I
  obtain ⟨v0, v1, v2, v3, v4, v5, v6, v7, v8, v9, v10, v11⟩ := id C
  obtain ⟨H, U, res, dem, kin, low, hig, pri, sta, ups, dow, onn, ord, flo, sro, sco, vd, hP, hc, hs⟩ := v3
  have hU : U ≤ 4 := by rw [hc.2.1]; exact hP.1
  have hH : H ≤ 6 := by rw [hc.1]; exact hP.2.1
  have w0 : W 0 0 = nI U := by rw [r3 0 (by omega), hc.2.1]
  have w1 : W 0 1 = nI H := by rw [r3 1 (by omega), hc.1]
  have e := ans_hour (hr := hr) (wh := wh) hP r3 hc hs
  refine ⟨_, h, h, ?_, RetB.put M (c_Model_hour M w0 hU w1 hH), ⟨hxb, _, _, _, _, _, _, _, _, _, _, _, _, _, _, _, _, _, _, _, _, _, _, _, _, _, _, _, _, _, _, _, _, _, _, _, _, _, _, _, C, M, ⟨r1, ⟨r2, r2b⟩, r3, r4, ⟨r5, r5b, r5c⟩, ⟨r6, r6b⟩, r7⟩⟩⟩
  have k := c_UH_hour (G := G) (hr := hr) (wh := wh) v0 vd hU hH
  rw [e] at k
  exact k
theorem s_trace {G : mG} {h : mHp} {x b : Nat} (I : INV h x b) (i : Int32) : STP G x b 0 1 mX7_trace mX8_trace [.int i] h := by
  obtain ⟨hxb, fin, lf, kn, ik, it, lan, siz, tape, ln, P, K, afi, asz, Z, left, nl, lane, many, items, spare, fp, mat, mst, tok, mval, W, past, imgs, kept, gvn, costs, lst, sets, bst, mlo, mal, mpr, lak, trc, C, M, r1, ⟨r2, r2b⟩, r3, r4, ⟨r5, r5b, r5c⟩, ⟨r6, r6b⟩, r7⟩ := I
  obtain ⟨v0, v1, v2, v3, v4, v5, v6, v7, v8, v9, v10, v11⟩ := id C
  obtain ⟨num, kd, hi, ho, va⟩ := v11
  have e := ans_trace (i := i) r6 r6b
  refine ⟨_, h, h, ?_, RetB.put M (c_Model_trace M r6), ⟨hxb, _, _, _, _, _, _, _, _, _, _, _, _, _, _, _, _, _, _, _, _, _, _, _, _, _, _, _, _, _, _, _, _, _, _, _, _, _, _, _, C, M, ⟨r1, ⟨r2, r2b⟩, r3, r4, ⟨r5, r5b, r5c⟩, ⟨r6, r6b⟩, r7⟩⟩⟩
  have k := c_UH_trace (G := G) (i := i) v0 va r6
  rw [e] at k
  exact k
theorem s_count {G : mG} {h : mHp} {x b : Nat} (I : INV h x b) (wh : Int32) : STP G x b 2 1 mX7_count mX8_count [.int wh] h := by
  obtain ⟨hxb, fin, lf, kn, ik, it, lan, siz, tape, ln, P, K, afi, asz, Z, left, nl, lane, many, items, spare, fp, mat, mst, tok, mval, W, past, imgs, kept, gvn, costs, lst, sets, bst, mlo, mal, mpr, lak, trc, C, M, r1, ⟨r2, r2b⟩, r3, r4, ⟨r5, r5b, r5c⟩, ⟨r6, r6b⟩, r7⟩ := I
  obtain ⟨v0, v1, v2, v3, v4, v5, v6, v7, v8, v9, v10, v11⟩ := id C
  obtain ⟨H, U, res, dem, kin, low, hig, pri, sta, ups, dow, onn, ord, flo, sro, sco, vd, hP, hc, hs⟩ := v3
  have hU : U ≤ 4 := by rw [hc.2.1]; exact hP.1
  have hH : H ≤ 6 := by rw [hc.1]; exact hP.2.1
  have w0 : W 0 0 = nI U := by rw [r3 0 (by omega), hc.2.1]
  have w1 : W 0 1 = nI H := by rw [r3 1 (by omega), hc.1]
  obtain ⟨at_, fl, vt⟩ := v2
  have e := ans_count (asz := asz) (ln := ln) (wh := wh) hP r3 hc r1
  refine ⟨_, h, h, ?_, RetB.put M (c_Model_count M w0 hU w1 hH), ⟨hxb, _, _, _, _, _, _, _, _, _, _, _, _, _, _, _, _, _, _, _, _, _, _, _, _, _, _, _, _, _, _, _, _, _, _, _, _, _, _, _, C, M, ⟨r1, ⟨r2, r2b⟩, r3, r4, ⟨r5, r5b, r5c⟩, ⟨r6, r6b⟩, r7⟩⟩⟩
  have k := c_UH_count (G := G) (wh := wh) v0 v1 vd v7 vt hU hH
  rw [e] at k
  exact k
theorem s_gives {G : mG} {h : mHp} {x b : Nat} (I : INV h x b) (u hr : Int32) : STP G x b 3 4 mX7_gives mX8_gives [.int u, .int hr] h := by
  obtain ⟨hxb, fin, lf, kn, ik, it, lan, siz, tape, ln, P, K, afi, asz, Z, left, nl, lane, many, items, spare, fp, mat, mst, tok, mval, W, past, imgs, kept, gvn, costs, lst, sets, bst, mlo, mal, mpr, lak, trc, C, M, r1, ⟨r2, r2b⟩, r3, r4, ⟨r5, r5b, r5c⟩, ⟨r6, r6b⟩, r7⟩ := I
  obtain ⟨v0, v1, v2, v3, v4, v5, v6, v7, v8, v9, v10, v11⟩ := id C
  obtain ⟨H, U, res, dem, kin, low, hig, pri, sta, ups, dow, onn, ord, flo, sro, sco, vd, hP, hc, hs⟩ := v3
  have hU : U ≤ 4 := by rw [hc.2.1]; exact hP.1
  have hH : H ≤ 6 := by rw [hc.1]; exact hP.2.1
  have w0 : W 0 0 = nI U := by rw [r3 0 (by omega), hc.2.1]
  have w1 : W 0 1 = nI H := by rw [r3 1 (by omega), hc.1]
  have e := ans_gives (u := u) (hr := hr) (gvn := gvn) hP r3 hc hs
  refine ⟨_, h, _, ?_, RetB.hyp M (c_Model_gives w0 hU w1 hH), ⟨hxb, _, _, _, _, _, _, _, _, _, _, _, _, _, _, _, _, _, _, _, _, _, _, _, _, _, _, _, _, _, _, _, _, _, _, _, _, _, _, _, CI_m hxb C, ov_isV, ⟨r1, ⟨r2, r2b⟩, r3, r4, ⟨r5, r5b, r5c⟩, ⟨r6, r6b⟩, r7⟩⟩⟩
  have k := c_UH_gives (G := G) (u := u) (hr := hr) v0 vd hU hH hs.2.1
  rw [e] at k
  exact k
theorem s_plan {G : mG} {h : mHp} {x b : Nat} (I : INV h x b) (wh : Int32) : STP G x b 4 5 mX7_plan mX8_plan [.int wh] h := by
  obtain ⟨hxb, fin, lf, kn, ik, it, lan, siz, tape, ln, P, K, afi, asz, Z, left, nl, lane, many, items, spare, fp, mat, mst, tok, mval, W, past, imgs, kept, gvn, costs, lst, sets, bst, mlo, mal, mpr, lak, trc, C, M, r1, ⟨r2, r2b⟩, r3, r4, ⟨r5, r5b, r5c⟩, ⟨r6, r6b⟩, r7⟩ := I
  obtain ⟨v0, v1, v2, v3, v4, v5, v6, v7, v8, v9, v10, v11⟩ := id C
  obtain ⟨H, U, res, dem, kin, low, hig, pri, sta, ups, dow, onn, ord, flo, sro, sco, vd, hP, hc, hs⟩ := v3
  have hU : U ≤ 4 := by rw [hc.2.1]; exact hP.1
  have hH : H ≤ 6 := by rw [hc.1]; exact hP.2.1
  have w0 : W 0 0 = nI U := by rw [r3 0 (by omega), hc.2.1]
  have w1 : W 0 1 = nI H := by rw [r3 1 (by omega), hc.1]
  have e := ans_plan (wh := wh) (gvn := gvn) hP r3 hc hs
  refine ⟨_, h, _, ?_, RetB.hyp M (c_Model_plan w0 hU w1 hH), ⟨hxb, _, _, _, _, _, _, _, _, _, _, _, _, _, _, _, _, _, _, _, _, _, _, _, _, _, _, _, _, _, _, _, _, _, _, _, _, _, _, _, CI_m hxb C, ov_isV, ⟨r1, ⟨r2, r2b⟩, r3, r4, ⟨r5, r5b, r5c⟩, ⟨r6, r6b⟩, r7⟩⟩⟩
  have k := c_UH_plan (G := G) (wh := wh) v0 vd hU hH hs.2.1
  rw [e] at k
  exact k
