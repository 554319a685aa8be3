theorem s_run {G : mG} {h : mHp} {x b : Nat} (I : INV h x b) (u hrs : Int32) : STP G x b 5 2 mX7_run mX8_run [.int u, .int hrs] h := by
  obtain ⟨hxb, fin, lf, kn, ik, it, lan, siz, tape, ln, P, K, afi, asz, Z, left, nl, lane, many, items, spare, fp, mat, mst, tok, mval, W, past, imgs, kept, gvn, costs, lst, sets, bst, mlo, mal, mpr, lak, trc, C, M, r1, ⟨r2, r2b⟩, r3, r4, ⟨r5, r5b, r5c⟩, ⟨r6, r6b⟩, r7⟩ := I
  obtain ⟨v0, v1, v2, v3, v4, v5, v6, v7, v8, v9, v10, v11⟩ := id C
  obtain ⟨H, U, res, dem, kin, low, hig, pri, sta, ups, dow, onn, ord, flo, sro, sco, vd, hP, hc, hs⟩ := v3
  have hU : U ≤ 4 := by rw [hc.2.1]; exact hP.1
  have hH : H ≤ 6 := by rw [hc.1]; exact hP.2.1
  have w0 : W 0 0 = nI U := by rw [r3 0 (by omega), hc.2.1]
  have w1 : W 0 1 = nI H := by rw [r3 1 (by omega), hc.1]
  have hkk : (FI afi asz + ZS asz) % 16 < 16 := Nat.mod_lt _ (by decide)
  obtain ⟨H3, U3, res3, dem3, kin3, low3, hig3, pri3, sta3, ups3, dow3, onn3, ord3, flo3, sro3, sco3, vk0, hZ⟩ := v8 _ hkk
  have hb1 : x + 74 ≤ KB (x + 72) afi asz := by unfold KB; omega
  have hb2 : KB (x + 72) afi asz + 14 ≤ x + 298 := by unfold KB; omega
  have vk : isV h (KB (x + 72) afi asz) (dayL (KB (x + 72) afi asz) H3 U3 res3 dem3 kin3 low3 hig3 pri3 sta3 ups3 dow3 onn3 ord3 flo3 sro3 sco3) := vk0
  have k1 := Ret.hyp4 vd v7 vk v0 (c_UH_run (G := G) (h := h) (u := u) (hrs := hrs) (by omega) (by omega) (by omega) (by omega) (by omega) (by omega) (by omega) (by omega) (by omega) (by omega) (by omega) (by omega) hU hH hZ.2.2.2.1 r5 r5b)
  generalize hR : f_UH_run ik H U res dem kin low hig pri sta ups dow onn afi asz H3 U3 res3 dem3 kin3 low3 hig3 pri3 sta3 ups3 dow3 onn3 ord3 flo3 sro3 sco3 u hrs = R at k1
  have M1 := mV_ov (n := 1) (a := x) (L := uhL x fin lf kn R.2.2.2.2.2.2.2.2.2.2.2.2.2.2.2.2.2.2.2.2) rfl (by omega) (mV_ov (n := 14) (a := KB (x + 72) afi asz) (L := dayL (KB (x + 72) afi asz) R.2.2.2.2.1 R.2.2.2.2.2.1 R.2.2.2.2.2.2.1 R.2.2.2.2.2.2.2.1 R.2.2.2.2.2.2.2.2.1 R.2.2.2.2.2.2.2.2.2.1 R.2.2.2.2.2.2.2.2.2.2.1 R.2.2.2.2.2.2.2.2.2.2.2.1 R.2.2.2.2.2.2.2.2.2.2.2.2.1 R.2.2.2.2.2.2.2.2.2.2.2.2.2.1 R.2.2.2.2.2.2.2.2.2.2.2.2.2.2.1 R.2.2.2.2.2.2.2.2.2.2.2.2.2.2.2.1 R.2.2.2.2.2.2.2.2.2.2.2.2.2.2.2.2.1 R.2.2.2.2.2.2.2.2.2.2.2.2.2.2.2.2.2.1 R.2.2.2.2.2.2.2.2.2.2.2.2.2.2.2.2.2.2.1 R.2.2.2.2.2.2.2.2.2.2.2.2.2.2.2.2.2.2.2.1) rfl (by omega) (mV_ov (n := 2) (a := x + 72) (L := actL (x + 72) R.2.2.1 R.2.2.2.1) rfl (by omega) (mV_ov (n := 14) (a := x + 15) (L := dayL (x + 15) H U res dem kin low hig pri sta ups dow R.2.1 ord flo sro sco) rfl (by omega) M)))
  have k2 := RetB.hyp M1 (c_Model_run (G := G) (u := u) (v := hrs) w0 hU w1 hH r5b)
  generalize hM : f_Model_run W past asz u hrs U H = N at k2
  obtain ⟨e, P', Q', ⟨p1, p2, p3⟩, ⟨q1, q2, q3⟩, m0, m1, m2, m3⟩ := op_run hP hc hs hZ r3 ⟨r5, r5b, r5c⟩ r7 hR hM
  rw [e] at k1
  rw [m1] at k2
  exact ⟨_, _, _, k1, k2, ⟨hxb, _, _, _, _, _, _, _, _, _, _, _, _, _, _, _, _, _, _, _, _, _, _, _, _, _, _, _, _, _, _, _, _, _, _, _, _, _, _, _, CI_m hxb (CI_x (CI_k (CI_c (CI_d C p1 p2 p3)) hkk q1 q2 q3)), ov_isV, ⟨r1, ⟨r2, r2b⟩, m0, r4, m2, ⟨r6, r6b⟩, m3⟩⟩⟩
theorem s_demand {G : mG} {h : mHp} {x b : Nat} (I : INV h x b) (hr v : Int32) : STP G x b 5 3 mX7_demand mX8_demand [.int hr, .int v] h := by
  obtain ⟨hxb, fin, lf, kn, ik, it, lan, siz, tape, ln, P, K, afi, asz, Z, left, nl, lane, many, items, spare, fp, mat, mst, tok, mval, W, past, imgs, kept, gvn, costs, lst, sets, bst, mlo, mal, mpr, lak, trc, C, M, r1, ⟨r2, r2b⟩, r3, r4, ⟨r5, r5b, r5c⟩, ⟨r6, r6b⟩, r7⟩ := I
  obtain ⟨v0, v1, v2, v3, v4, v5, v6, v7, v8, v9, v10, v11⟩ := id C
  obtain ⟨H, U, res, dem, kin, low, hig, pri, sta, ups, dow, onn, ord, flo, sro, sco, vd, hP, hc, hs⟩ := v3
  have hU : U ≤ 4 := by rw [hc.2.1]; exact hP.1
  have hH : H ≤ 6 := by rw [hc.1]; exact hP.2.1
  have w0 : W 0 0 = nI U := by rw [r3 0 (by omega), hc.2.1]
  have w1 : W 0 1 = nI H := by rw [r3 1 (by omega), hc.1]
  have hkk : (FI afi asz + ZS asz) % 16 < 16 := Nat.mod_lt _ (by decide)
  obtain ⟨H3, U3, res3, dem3, kin3, low3, hig3, pri3, sta3, ups3, dow3, onn3, ord3, flo3, sro3, sco3, vk0, hZ⟩ := v8 _ hkk
  have hb1 : x + 74 ≤ KB (x + 72) afi asz := by unfold KB; omega
  have hb2 : KB (x + 72) afi asz + 14 ≤ x + 298 := by unfold KB; omega
  have vk : isV h (KB (x + 72) afi asz) (dayL (KB (x + 72) afi asz) H3 U3 res3 dem3 kin3 low3 hig3 pri3 sta3 ups3 dow3 onn3 ord3 flo3 sro3 sco3) := vk0
  have k1 := Ret.hyp4 vd v7 vk v0 (c_UH_demand (G := G) (h := h) (hr := hr) (v := v) (by omega) (by omega) (by omega) (by omega) (by omega) (by omega) (by omega) (by omega) (by omega) (by omega) (by omega) (by omega) hU hH hZ.2.2.2.1 r5 r5b)
  generalize hR : f_UH_demand ik H U res dem kin low hig pri sta ups dow onn afi asz H3 U3 res3 dem3 kin3 low3 hig3 pri3 sta3 ups3 dow3 onn3 ord3 flo3 sro3 sco3 hr v = R at k1
  have M1 := mV_ov (n := 1) (a := x) (L := uhL x fin lf kn R.2.2.2.2.2.2.2.2.2.2.2.2.2.2.2.2.2.2.2.2) rfl (by omega) (mV_ov (n := 14) (a := KB (x + 72) afi asz) (L := dayL (KB (x + 72) afi asz) R.2.2.2.2.1 R.2.2.2.2.2.1 R.2.2.2.2.2.2.1 R.2.2.2.2.2.2.2.1 R.2.2.2.2.2.2.2.2.1 R.2.2.2.2.2.2.2.2.2.1 R.2.2.2.2.2.2.2.2.2.2.1 R.2.2.2.2.2.2.2.2.2.2.2.1 R.2.2.2.2.2.2.2.2.2.2.2.2.1 R.2.2.2.2.2.2.2.2.2.2.2.2.2.1 R.2.2.2.2.2.2.2.2.2.2.2.2.2.2.1 R.2.2.2.2.2.2.2.2.2.2.2.2.2.2.2.1 R.2.2.2.2.2.2.2.2.2.2.2.2.2.2.2.2.1 R.2.2.2.2.2.2.2.2.2.2.2.2.2.2.2.2.2.1 R.2.2.2.2.2.2.2.2.2.2.2.2.2.2.2.2.2.2.1 R.2.2.2.2.2.2.2.2.2.2.2.2.2.2.2.2.2.2.2.1) rfl (by omega) (mV_ov (n := 2) (a := x + 72) (L := actL (x + 72) R.2.2.1 R.2.2.2.1) rfl (by omega) (mV_ov (n := 14) (a := x + 15) (L := dayL (x + 15) H U res R.2.1 kin low hig pri sta ups dow onn ord flo sro sco) rfl (by omega) M)))
  have k2 := RetB.hyp M1 (c_Model_demand (G := G) (hr := hr) (v := v) w1 hH r5b)
  generalize hM : f_Model_demand W past asz hr v H = N at k2
  obtain ⟨e, P', Q', ⟨p1, p2, p3⟩, ⟨q1, q2, q3⟩, m0, m1, m2, m3⟩ := op_demand hP hc hs hZ r3 ⟨r5, r5b, r5c⟩ r7 hR hM
  rw [e] at k1
  rw [m1] at k2
  exact ⟨_, _, _, k1, k2, ⟨hxb, _, _, _, _, _, _, _, _, _, _, _, _, _, _, _, _, _, _, _, _, _, _, _, _, _, _, _, _, _, _, _, _, _, _, _, _, _, _, _, CI_m hxb (CI_x (CI_k (CI_c (CI_d C p1 p2 p3)) hkk q1 q2 q3)), ov_isV, ⟨r1, ⟨r2, r2b⟩, m0, r4, m2, ⟨r6, r6b⟩, m3⟩⟩⟩
theorem s_reserve {G : mG} {h : mHp} {x b : Nat} (I : INV h x b) (v : Int32) : STP G x b 5 3 mX7_reserve mX8_reserve [.int v] h := by
  obtain ⟨hxb, fin, lf, kn, ik, it, lan, siz, tape, ln, P, K, afi, asz, Z, left, nl, lane, many, items, spare, fp, mat, mst, tok, mval, W, past, imgs, kept, gvn, costs, lst, sets, bst, mlo, mal, mpr, lak, trc, C, M, r1, ⟨r2, r2b⟩, r3, r4, ⟨r5, r5b, r5c⟩, ⟨r6, r6b⟩, r7⟩ := I
  obtain ⟨v0, v1, v2, v3, v4, v5, v6, v7, v8, v9, v10, v11⟩ := id C
  obtain ⟨H, U, res, dem, kin, low, hig, pri, sta, ups, dow, onn, ord, flo, sro, sco, vd, hP, hc, hs⟩ := v3
  have hU : U ≤ 4 := by rw [hc.2.1]; exact hP.1
  have hH : H ≤ 6 := by rw [hc.1]; exact hP.2.1
  have w0 : W 0 0 = nI U := by rw [r3 0 (by omega), hc.2.1]
  have w1 : W 0 1 = nI H := by rw [r3 1 (by omega), hc.1]
  have hkk : (FI afi asz + ZS asz) % 16 < 16 := Nat.mod_lt _ (by decide)
  obtain ⟨H3, U3, res3, dem3, kin3, low3, hig3, pri3, sta3, ups3, dow3, onn3, ord3, flo3, sro3, sco3, vk0, hZ⟩ := v8 _ hkk
  have hb1 : x + 74 ≤ KB (x + 72) afi asz := by unfold KB; omega
  have hb2 : KB (x + 72) afi asz + 14 ≤ x + 298 := by unfold KB; omega
  have vk : isV h (KB (x + 72) afi asz) (dayL (KB (x + 72) afi asz) H3 U3 res3 dem3 kin3 low3 hig3 pri3 sta3 ups3 dow3 onn3 ord3 flo3 sro3 sco3) := vk0
  have k1 := Ret.hyp4 vd v7 vk v0 (c_UH_reserve (G := G) (h := h) (v := v) (by omega) (by omega) (by omega) (by omega) (by omega) (by omega) (by omega) (by omega) (by omega) (by omega) (by omega) (by omega) hU hH hZ.2.2.2.1 r5 r5b)
  generalize hR : f_UH_reserve ik H U res dem kin low hig pri sta ups dow onn afi asz H3 U3 res3 dem3 kin3 low3 hig3 pri3 sta3 ups3 dow3 onn3 ord3 flo3 sro3 sco3 v = R at k1
  have M1 := mV_ov (n := 1) (a := x) (L := uhL x fin lf kn R.2.2.2.2.2.2.2.2.2.2.2.2.2.2.2.2.2.2.2.2) rfl (by omega) (mV_ov (n := 14) (a := KB (x + 72) afi asz) (L := dayL (KB (x + 72) afi asz) R.2.2.2.2.1 R.2.2.2.2.2.1 R.2.2.2.2.2.2.1 R.2.2.2.2.2.2.2.1 R.2.2.2.2.2.2.2.2.1 R.2.2.2.2.2.2.2.2.2.1 R.2.2.2.2.2.2.2.2.2.2.1 R.2.2.2.2.2.2.2.2.2.2.2.1 R.2.2.2.2.2.2.2.2.2.2.2.2.1 R.2.2.2.2.2.2.2.2.2.2.2.2.2.1 R.2.2.2.2.2.2.2.2.2.2.2.2.2.2.1 R.2.2.2.2.2.2.2.2.2.2.2.2.2.2.2.1 R.2.2.2.2.2.2.2.2.2.2.2.2.2.2.2.2.1 R.2.2.2.2.2.2.2.2.2.2.2.2.2.2.2.2.2.1 R.2.2.2.2.2.2.2.2.2.2.2.2.2.2.2.2.2.2.1 R.2.2.2.2.2.2.2.2.2.2.2.2.2.2.2.2.2.2.2.1) rfl (by omega) (mV_ov (n := 2) (a := x + 72) (L := actL (x + 72) R.2.2.1 R.2.2.2.1) rfl (by omega) (mV_ov (n := 14) (a := x + 15) (L := dayL (x + 15) H U R.2.1 dem kin low hig pri sta ups dow onn ord flo sro sco) rfl (by omega) M)))
  have k2 := RetB.hyp M1 (c_Model_reserve (G := G) (v := v) r5b)
  generalize hM : f_Model_reserve W past asz v = N at k2
  obtain ⟨e, P', Q', ⟨p1, p2, p3⟩, ⟨q1, q2, q3⟩, m0, m1, m2, m3⟩ := op_reserve hP hc hs hZ r3 ⟨r5, r5b, r5c⟩ r7 hR hM
  rw [e] at k1
  rw [m1] at k2
  exact ⟨_, _, _, k1, k2, ⟨hxb, _, _, _, _, _, _, _, _, _, _, _, _, _, _, _, _, _, _, _, _, _, _, _, _, _, _, _, _, _, _, _, _, _, _, _, _, _, _, _, CI_m hxb (CI_x (CI_k (CI_c (CI_d C p1 p2 p3)) hkk q1 q2 q3)), ov_isV, ⟨r1, ⟨r2, r2b⟩, m0, r4, m2, ⟨r6, r6b⟩, m3⟩⟩⟩
theorem s_price {G : mG} {h : mHp} {x b : Nat} (I : INV h x b) (u v : Int32) : STP G x b 5 3 mX7_price mX8_price [.int u, .int v] h := by
  obtain ⟨hxb, fin, lf, kn, ik, it, lan, siz, tape, ln, P, K, afi, asz, Z, left, nl, lane, many, items, spare, fp, mat, mst, tok, mval, W, past, imgs, kept, gvn, costs, lst, sets, bst, mlo, mal, mpr, lak, trc, C, M, r1, ⟨r2, r2b⟩, r3, r4, ⟨r5, r5b, r5c⟩, ⟨r6, r6b⟩, r7⟩ := I
  obtain ⟨v0, v1, v2, v3, v4, v5, v6, v7, v8, v9, v10, v11⟩ := id C
  obtain ⟨H, U, res, dem, kin, low, hig, pri, sta, ups, dow, onn, ord, flo, sro, sco, vd, hP, hc, hs⟩ := v3
  have hU : U ≤ 4 := by rw [hc.2.1]; exact hP.1
  have hH : H ≤ 6 := by rw [hc.1]; exact hP.2.1
  have w0 : W 0 0 = nI U := by rw [r3 0 (by omega), hc.2.1]
  have w1 : W 0 1 = nI H := by rw [r3 1 (by omega), hc.1]
  have hkk : (FI afi asz + ZS asz) % 16 < 16 := Nat.mod_lt _ (by decide)
  obtain ⟨H3, U3, res3, dem3, kin3, low3, hig3, pri3, sta3, ups3, dow3, onn3, ord3, flo3, sro3, sco3, vk0, hZ⟩ := v8 _ hkk
  have hb1 : x + 74 ≤ KB (x + 72) afi asz := by unfold KB; omega
  have hb2 : KB (x + 72) afi asz + 14 ≤ x + 298 := by unfold KB; omega
  have vk : isV h (KB (x + 72) afi asz) (dayL (KB (x + 72) afi asz) H3 U3 res3 dem3 kin3 low3 hig3 pri3 sta3 ups3 dow3 onn3 ord3 flo3 sro3 sco3) := vk0
  have k1 := Ret.hyp4 vd v7 vk v0 (c_UH_price (G := G) (h := h) (u := u) (v := v) (by omega) (by omega) (by omega) (by omega) (by omega) (by omega) (by omega) (by omega) (by omega) (by omega) (by omega) (by omega) hU hs.2.1 hZ.2.2.2.1 r5 r5b)
  generalize hR : f_UH_price ik H U res dem kin low hig pri sta ups dow onn ord flo sro sco afi asz H3 U3 res3 dem3 kin3 low3 hig3 pri3 sta3 ups3 dow3 onn3 ord3 flo3 sro3 sco3 u v = R at k1
  have M1 := mV_ov (n := 1) (a := x) (L := uhL x fin lf kn R.2.2.2.2.2.2.2.2.2.2.2.2.2.2.2.2.2.2.2.2.2.2.2.2) rfl (by omega) (mV_ov (n := 14) (a := KB (x + 72) afi asz) (L := dayL (KB (x + 72) afi asz) R.2.2.2.2.2.2.2.2.1 R.2.2.2.2.2.2.2.2.2.1 R.2.2.2.2.2.2.2.2.2.2.1 R.2.2.2.2.2.2.2.2.2.2.2.1 R.2.2.2.2.2.2.2.2.2.2.2.2.1 R.2.2.2.2.2.2.2.2.2.2.2.2.2.1 R.2.2.2.2.2.2.2.2.2.2.2.2.2.2.1 R.2.2.2.2.2.2.2.2.2.2.2.2.2.2.2.1 R.2.2.2.2.2.2.2.2.2.2.2.2.2.2.2.2.1 R.2.2.2.2.2.2.2.2.2.2.2.2.2.2.2.2.2.1 R.2.2.2.2.2.2.2.2.2.2.2.2.2.2.2.2.2.2.1 R.2.2.2.2.2.2.2.2.2.2.2.2.2.2.2.2.2.2.2.1 R.2.2.2.2.2.2.2.2.2.2.2.2.2.2.2.2.2.2.2.2.1 R.2.2.2.2.2.2.2.2.2.2.2.2.2.2.2.2.2.2.2.2.2.1 R.2.2.2.2.2.2.2.2.2.2.2.2.2.2.2.2.2.2.2.2.2.2.1 R.2.2.2.2.2.2.2.2.2.2.2.2.2.2.2.2.2.2.2.2.2.2.2.1) rfl (by omega) (mV_ov (n := 2) (a := x + 72) (L := actL (x + 72) R.2.2.2.2.2.2.1 R.2.2.2.2.2.2.2.1) rfl (by omega) (mV_ov (n := 14) (a := x + 15) (L := dayL (x + 15) H U res dem kin low hig R.2.1 sta ups dow onn R.2.2.1 R.2.2.2.1 R.2.2.2.2.1 R.2.2.2.2.2.1) rfl (by omega) M)))
  have k2 := RetB.hyp M1 (c_Model_price (G := G) (u := u) (v := v) w0 hU r5b)
  generalize hM : f_Model_price W past asz u v U = N at k2
  obtain ⟨e, P', Q', ⟨p1, p2, p3⟩, ⟨q1, q2, q3⟩, m0, m1, m2, m3⟩ := op_price hP hc hs hZ r3 ⟨r5, r5b, r5c⟩ r7 hR hM
  rw [e] at k1
  rw [m1] at k2
  exact ⟨_, _, _, k1, k2, ⟨hxb, _, _, _, _, _, _, _, _, _, _, _, _, _, _, _, _, _, _, _, _, _, _, _, _, _, _, _, _, _, _, _, _, _, _, _, _, _, _, _, CI_m hxb (CI_x (CI_k (CI_c (CI_d C p1 p2 p3)) hkk q1 q2 q3)), ov_isV, ⟨r1, ⟨r2, r2b⟩, m0, r4, m2, ⟨r6, r6b⟩, m3⟩⟩⟩
theorem s_become {G : mG} {h : mHp} {x b : Nat} (I : INV h x b) (u v : Int32) : STP G x b 5 3 mX7_become mX8_become [.int u, .int v] h := by
  obtain ⟨hxb, fin, lf, kn, ik, it, lan, siz, tape, ln, P, K, afi, asz, Z, left, nl, lane, many, items, spare, fp, mat, mst, tok, mval, W, past, imgs, kept, gvn, costs, lst, sets, bst, mlo, mal, mpr, lak, trc, C, M, r1, ⟨r2, r2b⟩, r3, r4, ⟨r5, r5b, r5c⟩, ⟨r6, r6b⟩, r7⟩ := I
  obtain ⟨v0, v1, v2, v3, v4, v5, v6, v7, v8, v9, v10, v11⟩ := id C
  obtain ⟨H, U, res, dem, kin, low, hig, pri, sta, ups, dow, onn, ord, flo, sro, sco, vd, hP, hc, hs⟩ := v3
  have hU : U ≤ 4 := by rw [hc.2.1]; exact hP.1
  have hH : H ≤ 6 := by rw [hc.1]; exact hP.2.1
  have w0 : W 0 0 = nI U := by rw [r3 0 (by omega), hc.2.1]
  have w1 : W 0 1 = nI H := by rw [r3 1 (by omega), hc.1]
  have hkk : (FI afi asz + ZS asz) % 16 < 16 := Nat.mod_lt _ (by decide)
  obtain ⟨H3, U3, res3, dem3, kin3, low3, hig3, pri3, sta3, ups3, dow3, onn3, ord3, flo3, sro3, sco3, vk0, hZ⟩ := v8 _ hkk
  have hb1 : x + 74 ≤ KB (x + 72) afi asz := by unfold KB; omega
  have hb2 : KB (x + 72) afi asz + 14 ≤ x + 298 := by unfold KB; omega
  have vk : isV h (KB (x + 72) afi asz) (dayL (KB (x + 72) afi asz) H3 U3 res3 dem3 kin3 low3 hig3 pri3 sta3 ups3 dow3 onn3 ord3 flo3 sro3 sco3) := vk0
  have k1 := Ret.hyp4 vd v7 vk v0 (c_UH_become (G := G) (h := h) (u := u) (v := v) (by omega) (by omega) (by omega) (by omega) (by omega) (by omega) (by omega) (by omega) (by omega) (by omega) (by omega) (by omega) hU hs.2.1 hZ.2.2.2.1 r5 r5b)
  generalize hR : f_UH_become ik H U res dem kin low hig pri sta ups dow onn ord flo sro sco afi asz H3 U3 res3 dem3 kin3 low3 hig3 pri3 sta3 ups3 dow3 onn3 ord3 flo3 sro3 sco3 u v = R at k1
  have M1 := mV_ov (n := 1) (a := x) (L := uhL x fin lf kn R.2.2.2.2.2.2.2.2.2.2.2.2.2.2.2.2.2.2.2.2.2.2.2.2) rfl (by omega) (mV_ov (n := 14) (a := KB (x + 72) afi asz) (L := dayL (KB (x + 72) afi asz) R.2.2.2.2.2.2.2.2.1 R.2.2.2.2.2.2.2.2.2.1 R.2.2.2.2.2.2.2.2.2.2.1 R.2.2.2.2.2.2.2.2.2.2.2.1 R.2.2.2.2.2.2.2.2.2.2.2.2.1 R.2.2.2.2.2.2.2.2.2.2.2.2.2.1 R.2.2.2.2.2.2.2.2.2.2.2.2.2.2.1 R.2.2.2.2.2.2.2.2.2.2.2.2.2.2.2.1 R.2.2.2.2.2.2.2.2.2.2.2.2.2.2.2.2.1 R.2.2.2.2.2.2.2.2.2.2.2.2.2.2.2.2.2.1 R.2.2.2.2.2.2.2.2.2.2.2.2.2.2.2.2.2.2.1 R.2.2.2.2.2.2.2.2.2.2.2.2.2.2.2.2.2.2.2.1 R.2.2.2.2.2.2.2.2.2.2.2.2.2.2.2.2.2.2.2.2.1 R.2.2.2.2.2.2.2.2.2.2.2.2.2.2.2.2.2.2.2.2.2.1 R.2.2.2.2.2.2.2.2.2.2.2.2.2.2.2.2.2.2.2.2.2.2.1 R.2.2.2.2.2.2.2.2.2.2.2.2.2.2.2.2.2.2.2.2.2.2.2.1) rfl (by omega) (mV_ov (n := 2) (a := x + 72) (L := actL (x + 72) R.2.2.2.2.2.2.1 R.2.2.2.2.2.2.2.1) rfl (by omega) (mV_ov (n := 14) (a := x + 15) (L := dayL (x + 15) H U res dem R.2.1 low hig pri sta ups dow onn R.2.2.1 R.2.2.2.1 R.2.2.2.2.1 R.2.2.2.2.2.1) rfl (by omega) M)))
  have k2 := RetB.hyp M1 (c_Model_become (G := G) (u := u) (v := v) w0 hU r5b)
  generalize hM : f_Model_become W past asz u v U = N at k2
  obtain ⟨e, P', Q', ⟨p1, p2, p3⟩, ⟨q1, q2, q3⟩, m0, m1, m2, m3⟩ := op_become hP hc hs hZ r3 ⟨r5, r5b, r5c⟩ r7 hR hM
  rw [e] at k1
  rw [m1] at k2
  exact ⟨_, _, _, k1, k2, ⟨hxb, _, _, _, _, _, _, _, _, _, _, _, _, _, _, _, _, _, _, _, _, _, _, _, _, _, _, _, _, _, _, _, _, _, _, _, _, _, _, _, CI_m hxb (CI_x (CI_k (CI_c (CI_d C p1 p2 p3)) hkk q1 q2 q3)), ov_isV, ⟨r1, ⟨r2, r2b⟩, m0, r4, m2, ⟨r6, r6b⟩, m3⟩⟩⟩
