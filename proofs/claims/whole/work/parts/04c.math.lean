/-! Math.max, Math.min: the library's own rows -/
def f_Math_maxI (a b : Int32) : Int32 := if a < b then b else a
def f_Math_minI (a b : Int32) : Int32 := if b < a then b else a
def f_Math_maxJ (a b : Int64) : Int64 := if b < a then a else b
def f_Math_minJ (a b : Int64) : Int64 := if b < a then b else a
section MMATH
variable {Z : mZ} {own : String} {cc : ByteArray} {nL n pc : Nat} {lv : List (Nat × Value)} {st : List Value} {h : mHp}
theorem mm_X2_92 (X : mCx Z RX2 cc nL n) {x y : Int32} (hn1 : 1 ≤ n) (d : decode cc pc = .ok (.invokestatic 92, 3)) (hw : (st.map fun v => v.category).sum ≤ 8) (k : SW Z (pc + 3) lv (.int (f_Math_minI x y) :: st) h) : SW Z pc lv (.int y :: .int x :: st) h := by
  obtain ⟨G, ⟨p, l, e, R, s, m, args, below, meth, c⟩, ⟨nL', cells, slots⟩, Q, L⟩ := Z
  intro H locs ls hR hS hl
  obtain ⟨hx, hb, hm1, hm2, hown, hts, hI, hfr, hlo, hce, hsl⟩ := X
  exact va_mmin hx hb (by rw [hm1, ← hm2]; exact hl.1.symm) hown (hts _ (wG 724 (by decide +kernel) (by decide +kernel))) (hts _ kt_J9_min_7cf53) (hts _ kn_RJ9) (hts _ kc_J9_min_7cf53) (Nat.le_trans hn1 hfr) (Nat.le_trans (show _ ≤ 41 * n by omega) hlo) hce hsl d (k H locs ls hR hS hl)
theorem mm_X3_95 (X : mCx Z RX3 cc nL n) {x y : Int64} (hn1 : 1 ≤ n) (d : decode cc pc = .ok (.invokestatic 95, 3)) (hw : (st.map fun v => v.category).sum ≤ 8) (k : SW Z (pc + 3) lv (.long (f_Math_maxJ x y) :: st) h) : SW Z pc lv (.long y :: .long x :: st) h := by
  obtain ⟨G, ⟨p, l, e, R, s, m, args, below, meth, c⟩, ⟨nL', cells, slots⟩, Q, L⟩ := Z
  intro H locs ls hR hS hl
  obtain ⟨hx, hb, hm1, hm2, hown, hts, hI, hfr, hlo, hce, hsl⟩ := X
  exact va_mmax_long hx hb (by rw [hm1, ← hm2]; exact hl.1.symm) hown (hts _ (wG 819 (by decide +kernel) (by decide +kernel))) (hts _ kt_J9_max_f86c9) (hts _ kn_RJ9) (hts _ kc_J9_max_f86c9) (Nat.le_trans hn1 hfr) (Nat.le_trans (show _ ≤ 41 * n by omega) hlo) hce hsl d (k H locs ls hR hS hl)
theorem mm_X5_92 (X : mCx Z RX5 cc nL n) {x y : Int64} (hn1 : 1 ≤ n) (d : decode cc pc = .ok (.invokestatic 92, 3)) (hw : (st.map fun v => v.category).sum ≤ 8) (k : SW Z (pc + 3) lv (.long (f_Math_minJ x y) :: st) h) : SW Z pc lv (.long y :: .long x :: st) h := by
  obtain ⟨G, ⟨p, l, e, R, s, m, args, below, meth, c⟩, ⟨nL', cells, slots⟩, Q, L⟩ := Z
  intro H locs ls hR hS hl
  obtain ⟨hx, hb, hm1, hm2, hown, hts, hI, hfr, hlo, hce, hsl⟩ := X
  exact va_mmin_long hx hb (by rw [hm1, ← hm2]; exact hl.1.symm) hown (hts _ (wG 856 (by decide +kernel) (by decide +kernel))) (hts _ kt_J9_min_f86c9) (hts _ kn_RJ9) (hts _ kc_J9_min_f86c9) (Nat.le_trans hn1 hfr) (Nat.le_trans (show _ ≤ 41 * n by omega) hlo) hce hsl d (k H locs ls hR hS hl)
theorem mm_X5_128 (X : mCx Z RX5 cc nL n) {x y : Int32} (hn1 : 1 ≤ n) (d : decode cc pc = .ok (.invokestatic 128, 3)) (hw : (st.map fun v => v.category).sum ≤ 8) (k : SW Z (pc + 3) lv (.int (f_Math_maxI x y) :: st) h) : SW Z pc lv (.int y :: .int x :: st) h := by
  obtain ⟨G, ⟨p, l, e, R, s, m, args, below, meth, c⟩, ⟨nL', cells, slots⟩, Q, L⟩ := Z
  intro H locs ls hR hS hl
  obtain ⟨hx, hb, hm1, hm2, hown, hts, hI, hfr, hlo, hce, hsl⟩ := X
  exact va_mmax hx hb (by rw [hm1, ← hm2]; exact hl.1.symm) hown (hts _ (wG 594 (by decide +kernel) (by decide +kernel))) (hts _ kt_J9_max_7cf53) (hts _ kn_RJ9) (hts _ kc_J9_max_7cf53) (Nat.le_trans hn1 hfr) (Nat.le_trans (show _ ≤ 41 * n by omega) hlo) hce hsl d (k H locs ls hR hS hl)
end MMATH
