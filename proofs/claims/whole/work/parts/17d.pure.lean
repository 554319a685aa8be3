theorem rR_siz {it : Nat → Nat → Int32} {lan siz lane : Nat → Int32} {many : Nat → Nat} {items : Nat → Int32} (r1 : rR it lan siz lane many items) : ∀ j, j < 8 → siz j = -1 ∨ ∃ m, m ≤ 40 ∧ siz j = nI m := fun j hj => by
  obtain ⟨a, q | q⟩ := r1 j hj
  · exact Or.inl q.1
  · exact Or.inr ⟨_, a, q.1⟩
theorem s_row {G : mG} {h : mHp} {x b : Nat} (I : INV h x b) (row la n : Int32) : STP G x b 2 2 mX7_row mX8_row [.int row, .int la, .int n] h := by
  obtain ⟨hxb, fin, lf, kn, ik, it, lan, siz, tape, ln, P, K, afi, asz, Z, left, nl, lane, many, items, spare, fp, mat, mst, tok, mval, W, past, imgs, kept, gvn, costs, lst, sets, bst, mlo, mal, mpr, lak, trc, C, M, r1, ⟨r2, r2b⟩, r3, r4, ⟨r5, r5b, r5c⟩, ⟨r6, r6b⟩, r7⟩ := I
  obtain ⟨v0, v1, v2, v3, v4, v5, v6, v7, v8, v9, v10, v11⟩ := id C
  obtain ⟨e1, e2, e3⟩ := row_R (row := row) (la := la) (n := n) r1 (rfl : fin = fin)
  have k1 := Ret.hyp2 v1 v0 (c_UH_row (G := G) (h := h) (fin := fin) (lf := lf) (kn := kn) (ik := ik) (it := it) (lan := lan) (siz := siz) (x := x) (row := row) (la := la) (n := n) (by omega) (by omega))
  rw [e1, e2] at k1
  exact ⟨_, _, _, k1, RetB.hyp (mV_ov (n := 1) rfl (by omega) (mV_ov (n := 12) rfl (by omega) M)) (c_Model_row (fun j hj => (r1 j hj).1)), ⟨hxb, _, _, _, _, _, _, _, _, _, _, _, _, _, _, _, _, _, _, _, _, _, _, _, _, _, _, _, _, _, _, _, _, _, _, _, _, _, _, _, CI_m hxb (CI_x (CI_r C)), ov_isV, ⟨e3, ⟨r2, r2b⟩, r3, r4, ⟨r5, r5b, r5c⟩, ⟨r6, r6b⟩, r7⟩⟩⟩
theorem s_set {G : mG} {h : mHp} {x b : Nat} (I : INV h x b) (row i v : Int32) : STP G x b 1 2 mX7_set mX8_set [.int row, .int i, .int v] h := by
  obtain ⟨hxb, fin, lf, kn, ik, it, lan, siz, tape, ln, P, K, afi, asz, Z, left, nl, lane, many, items, spare, fp, mat, mst, tok, mval, W, past, imgs, kept, gvn, costs, lst, sets, bst, mlo, mal, mpr, lak, trc, C, M, r1, ⟨r2, r2b⟩, r3, r4, ⟨r5, r5b, r5c⟩, ⟨r6, r6b⟩, r7⟩ := I
  obtain ⟨v0, v1, v2, v3, v4, v5, v6, v7, v8, v9, v10, v11⟩ := id C
  obtain ⟨e1, e2, e3⟩ := set_R (row := row) (i := i) (v := v) r1 (rfl : fin = fin)
  have k1 := Ret.hyp2 v1 v0 (c_UH_set (G := G) (h := h) (fin := fin) (lf := lf) (kn := kn) (ik := ik) (it := it) (lan := lan) (siz := siz) (x := x) (row := row) (i := i) (v := v) (by omega) (by omega) (rR_siz r1))
  rw [e1, e2] at k1
  exact ⟨_, _, _, k1, RetB.hyp (mV_ov (n := 1) rfl (by omega) (mV_ov (n := 12) rfl (by omega) M)) (c_Model_set (fun j hj => (r1 j hj).1)), ⟨hxb, _, _, _, _, _, _, _, _, _, _, _, _, _, _, _, _, _, _, _, _, _, _, _, _, _, _, _, _, _, _, _, _, _, _, _, _, _, _, _, CI_m hxb (CI_x (CI_r C)), ov_isV, ⟨e3, ⟨r2, r2b⟩, r3, r4, ⟨r5, r5b, r5c⟩, ⟨r6, r6b⟩, r7⟩⟩⟩
theorem s_copy {G : mG} {h : mHp} {x b : Nat} (I : INV h x b) (a i bb j n : Int32) : STP G x b 1 2 mX7_copy mX8_copy [.int a, .int i, .int bb, .int j, .int n] h := by
  obtain ⟨hxb, fin, lf, kn, ik, it, lan, siz, tape, ln, P, K, afi, asz, Z, left, nl, lane, many, items, spare, fp, mat, mst, tok, mval, W, past, imgs, kept, gvn, costs, lst, sets, bst, mlo, mal, mpr, lak, trc, C, M, r1, ⟨r2, r2b⟩, r3, r4, ⟨r5, r5b, r5c⟩, ⟨r6, r6b⟩, r7⟩ := I
  obtain ⟨v0, v1, v2, v3, v4, v5, v6, v7, v8, v9, v10, v11⟩ := id C
  obtain ⟨e1, e2, e3⟩ := copy_R (spare := spare) (a := a) (i := i) (bb := bb) (j := j) (n := n) r1 (rfl : fin = fin)
  have k1 := Ret.hyp2 v1 v0 (c_UH_copy (G := G) (h := h) (fin := fin) (lf := lf) (kn := kn) (ik := ik) (it := it) (lan := lan) (siz := siz) (x := x) (a := a) (i := i) (bb := bb) (j := j) (n := n) (by omega) (by omega) (rR_siz r1))
  rw [e1, e2] at k1
  exact ⟨_, _, _, k1, RetB.hyp (mV_ov (n := 1) rfl (by omega) (mV_ov (n := 12) rfl (by omega) M)) (c_Model_copy (fun j hj => (r1 j hj).1)), ⟨hxb, _, _, _, _, _, _, _, _, _, _, _, _, _, _, _, _, _, _, _, _, _, _, _, _, _, _, _, _, _, _, _, _, _, _, _, _, _, _, _, CI_m hxb (CI_x (CI_r C)), ov_isV, ⟨e3, ⟨r2, r2b⟩, r3, r4, ⟨r5, r5b, r5c⟩, ⟨r6, r6b⟩, r7⟩⟩⟩
theorem s_drop {G : mG} {h : mHp} {x b : Nat} (I : INV h x b) (row : Int32) : STP G x b 1 2 mX7_drop mX8_drop [.int row] h := by
  obtain ⟨hxb, fin, lf, kn, ik, it, lan, siz, tape, ln, P, K, afi, asz, Z, left, nl, lane, many, items, spare, fp, mat, mst, tok, mval, W, past, imgs, kept, gvn, costs, lst, sets, bst, mlo, mal, mpr, lak, trc, C, M, r1, ⟨r2, r2b⟩, r3, r4, ⟨r5, r5b, r5c⟩, ⟨r6, r6b⟩, r7⟩ := I
  obtain ⟨v0, v1, v2, v3, v4, v5, v6, v7, v8, v9, v10, v11⟩ := id C
  obtain ⟨e1, e2, e3⟩ := drop_R (row := row) r1 (rfl : fin = fin)
  have k1 := Ret.hyp2 v1 v0 (c_UH_drop (G := G) (h := h) (fin := fin) (lf := lf) (kn := kn) (ik := ik) (it := it) (lan := lan) (siz := siz) (x := x) (row := row) (by omega) (by omega))
  rw [e1, e2] at k1
  exact ⟨_, _, _, k1, RetB.hyp (mV_ov (n := 1) rfl (by omega) (mV_ov (n := 12) rfl (by omega) M)) (c_Model_drop (fun j hj => (r1 j hj).1)), ⟨hxb, _, _, _, _, _, _, _, _, _, _, _, _, _, _, _, _, _, _, _, _, _, _, _, _, _, _, _, _, _, _, _, _, _, _, _, _, _, _, _, CI_m hxb (CI_x (CI_r C)), ov_isV, ⟨e3, ⟨r2, r2b⟩, r3, r4, ⟨r5, r5b, r5c⟩, ⟨r6, r6b⟩, r7⟩⟩⟩
theorem s_feed {G : mG} {h : mHp} {x b : Nat} (I : INV h x b) (le : Int32) : STP G x b 1 1 mX7_feed mX8_feed [.int le] h := by
  obtain ⟨hxb, fin, lf, kn, ik, it, lan, siz, tape, ln, P, K, afi, asz, Z, left, nl, lane, many, items, spare, fp, mat, mst, tok, mval, W, past, imgs, kept, gvn, costs, lst, sets, bst, mlo, mal, mpr, lak, trc, C, M, r1, ⟨r2, r2b⟩, r3, r4, ⟨r5, r5b, r5c⟩, ⟨r6, r6b⟩, r7⟩ := I
  obtain ⟨v0, v1, v2, v3, v4, v5, v6, v7, v8, v9, v10, v11⟩ := id C
  obtain ⟨at_, fl, vt⟩ := v2
  obtain ⟨e1, e2, e3⟩ := feed_R (le := le) r2 r2b
  have k1 := Ret.hyp vt (c_UH_feed (G := G) (le := le) v0 (by omega) r2)
  rw [e1] at k1 e2 e3
  exact ⟨_, _, _, k1, RetB.hyp (mV_ov (n := 2) rfl (by omega) M) (c_Model_feed r2), ⟨hxb, _, _, _, _, _, _, _, _, _, _, _, _, _, _, _, _, _, _, _, _, _, _, _, _, _, _, _, _, _, _, _, _, _, _, _, _, _, _, _, CI_m hxb (CI_t C), ov_isV, ⟨r1, ⟨e2, e3⟩, r3, r4, ⟨r5, r5b, r5c⟩, ⟨r6, r6b⟩, r7⟩⟩⟩
