theorem as_bit : ∀ q, q < 6 → ∀ d, d < 6 → 1 ≤ q → (((kAs q) >>> (nI d &&& 31)) &&& 1 = (0 : Int32) ↔ (if nI d = (0 : Int32) then (1 : Int32) else if nI d = nI q then (1 : Int32) else if nI d = (1 : Int32) then if nI q < (4 : Int32) then (1 : Int32) else if nI d = (4 : Int32) then if nI q = (5 : Int32) then (1 : Int32) else (0 : Int32) else (0 : Int32) else if nI d = (4 : Int32) then if nI q = (5 : Int32) then (1 : Int32) else (0 : Int32) else (0 : Int32)) = (0 : Int32)) := by decide +kernel
section ASR
variable {P : Nat → Nat} {W : Nat → Nat → Int32} {H U : Nat} {res : Int32} {dem kin low hig pri sta ups dow onn : Nat → Int32}
theorem as_R {u kd fin : Int32} (hP : nOK P) (hm : mD (W 0) P) (hc : cD P H U res dem kin low hig pri sta ups dow onn) : f_UH_as fin U kin u kd = f_Model_as fin W u kd U := by
  obtain ⟨h0, h1, h2, h3, h4, h5⟩ := hP
  obtain ⟨rfl, rfl, c2, c3, c4⟩ := hc
  unfold f_UH_as f_Model_as f_Model_kindIn
  rcases unitC (u := u) h0 with ⟨k, hk, rfl, g1, g2⟩ | ⟨g1, g2⟩
  rotate_left
  · rw [g1, g2, iteF (show ¬ (1 : Int32) = 0 by decide), iteT (show (0 : Int32) = 0 from rfl)]
  rw [g1, g2, iteT (show (0 : Int32) = 0 from rfl), iteF (show ¬ (1 : Int32) = 0 by decide), nI_clamp (by omega), (c4 k hk).1, hm (9 + (8 * k)) (by omega)]
  have hq := (h5 k hk).1
  generalize P (9 + (8 * k)) = q at hq
  rw [nI_clamp (by omega)]
  by_cases z1 : kd < 0
  · have e : f_Model_in kd 0 5 = 0 := by unfold f_Model_in; rw [if_pos z1]
    rw [if_pos z1, e, iteT (show (0 : Int32) = 0 from rfl)]
  by_cases z2 : 5 < kd
  · have e : f_Model_in kd 0 5 = 0 := by unfold f_Model_in; rw [if_neg z1, if_pos z2]
    rw [if_neg z1, if_pos z2, e, iteT (show (0 : Int32) = 0 from rfl)]
  have e : f_Model_in kd 0 5 = 1 := by unfold f_Model_in; rw [if_neg z1, if_neg z2]
  rw [if_neg z1, if_neg z2, e, iteF (show ¬ (1 : Int32) = 0 by decide)]
  obtain ⟨d, hd, rfl⟩ := leN (N := 5) (by omega) z1 z2
  have hb := as_bit q (by omega) d (by omega) hq.1
  by_cases c : ((kAs q) >>> (nI d &&& 31)) &&& 1 = (0 : Int32)
  · rw [if_pos c, if_pos (hb.mp c)]
    rfl
  · rw [if_neg c, if_neg (fun z => c (hb.mpr z))]
    rfl
end ASR
def STT (G : mG) (t x b n1 n2 : Nat) (MU MM : mM) (av : List Value) (h : mHp) : Prop := ∃ (v : Int32) (h1 h2 : mHp), RetT G t n1 MU (.ref x :: av) h (some (.int v)) h1 ∧ RetB G n2 MM b av h1 (some (.int v)) h2 ∧ INV h2 x b
theorem RetT.hyp {G : mG} {t n : Nat} {M : mM} {av : List Value} {h h' : mHp} {r : Option Value} {a : Nat} {L : List mC} (hv : isV h a L) (hR : RetT G t n M av (ov h a L) r h') : RetT G t n M av h r h' := by
  rw [ov_self hv] at hR
  exact hR
theorem s_as {G : mG} {t : Nat} {h : mHp} {x b : Nat} (I : INV h x b) (u kd : Int32) : STT G t x b 1 2 mX7_as mX8_as [.int u, .int kd] h := by
  obtain ⟨hxb, fin, lf, kn, ik, it, lan, siz, tape, ln, P, K, afi, asz, Z, left, nl, lane, many, items, spare, fp, mat, mst, tok, mval, W, past, imgs, kept, gvn, costs, lst, sets, bst, mlo, mal, mpr, lak, trc, C, M, r1, ⟨r2, r2b⟩, r3, r4, ⟨r5, r5b, r5c⟩, ⟨r6, r6b⟩, r7⟩ := I
  obtain ⟨v0, v1, v2, v3, v4, v5, v6, v7, v8, v9, v10, v11⟩ := id C
  obtain ⟨H, U, res, dem, kin, low, hig, pri, sta, ups, dow, onn, ord, flo, sro, sco, vd, hP, hc, hs⟩ := v3
  have hU : U ≤ 4 := by rw [hc.2.1]; exact hP.1
  have hH : H ≤ 6 := by rw [hc.1]; exact hP.2.1
  have w0 : W 0 0 = nI U := by rw [r3 0 (by omega), hc.2.1]
  have w1 : W 0 1 = nI H := by rw [r3 1 (by omega), hc.1]
  have e := as_R (u := u) (kd := kd) (fin := fin) hP r3 hc
  have k1 := RetT.hyp v0 (c_UH_as (G := G) (t := t) (h := h) (u := u) (kd := kd) vd (by omega) hU (fun j hj => by
    have z := (hP.2.2.2.2.2 j (by have := hc.2.1; omega)).1
    exact ⟨_, by omega, (hc.2.2.2.2 j (by have := hc.2.1; omega)).1⟩))
  have k2 := fun h1 (M1 : isV h1 b (modL b lane many items spare fin tape ln lf fp mat mst tok mval W past asz imgs kept gvn costs lst sets bst mlo mal mpr lak trc nl)) => RetB.hyp M1 (c_Model_as (G := G) (u := u) (kd := kd) w0 hU)
  rw [e] at k1
  exact ⟨_, _, _, k1, k2 _ (mV_ov (n := 1) (a := x) rfl (by omega) M), ⟨hxb, _, _, _, _, _, _, _, _, _, _, _, _, _, _, _, _, _, _, _, _, _, _, _, _, _, _, _, _, _, _, _, _, _, _, _, _, _, _, _, CI_m hxb (CI_x C), ov_isV, ⟨r1, ⟨r2, r2b⟩, r3, r4, ⟨r5, r5b, r5c⟩, ⟨r6, r6b⟩, r7⟩⟩⟩
