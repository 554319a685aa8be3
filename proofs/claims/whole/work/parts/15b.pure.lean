theorem cut8 (v : Int32) : (v <<< ((24 : Int32) &&& 31)) >>> ((24 : Int32) &&& 31) = v.toInt8.toInt32 := by
  refine Int32.toBitVec_inj.mp ?_
  rw [show ((24 : Int32) &&& 31) = 24 from by decide]
  rw [Int32.toBitVec_shiftRight, Int32.toBitVec_shiftLeft, Int8.toBitVec_toInt32, Int32.toBitVec_toInt8]
  rw [show ((24 : Int32).toBitVec.smod 32) = 24#32 from by decide]
  generalize v.toBitVec = b
  apply BitVec.eq_of_getLsbD_eq
  intro i hi
  have h1 : ¬ 32 ≤ i := by omega
  have h3 : ¬ 24 + i < 24 := by omega
  simp [BitVec.getLsbD_sshiftRight, BitVec.getLsbD_signExtend, BitVec.msb_eq_getLsbD_last]
  by_cases c : i < 8
  · have h2 : 24 + i < 32 := by omega
    simp [c, hi, h1, h2, h3]
  · have h2 : ¬ 24 + i < 32 := by omega
    simp [c, hi, h1, h2, BitVec.getElem_signExtend]
theorem cut16 (v : Int32) : (v <<< ((16 : Int32) &&& 31)) >>> ((16 : Int32) &&& 31) = v.toInt16.toInt32 := by
  refine Int32.toBitVec_inj.mp ?_
  rw [show ((16 : Int32) &&& 31) = 16 from by decide]
  rw [Int32.toBitVec_shiftRight, Int32.toBitVec_shiftLeft, Int16.toBitVec_toInt32, Int32.toBitVec_toInt16]
  rw [show ((16 : Int32).toBitVec.smod 32) = 16#32 from by decide]
  generalize v.toBitVec = b
  apply BitVec.eq_of_getLsbD_eq
  intro i hi
  have h1 : ¬ 32 ≤ i := by omega
  have h3 : ¬ 16 + i < 16 := by omega
  simp [BitVec.getLsbD_sshiftRight, BitVec.getLsbD_signExtend, BitVec.msb_eq_getLsbD_last]
  by_cases c : i < 16
  · have h2 : 16 + i < 32 := by omega
    simp [c, hi, h1, h2, h3]
  · have h2 : ¬ 16 + i < 32 := by omega
    simp [c, hi, h1, h2, BitVec.getElem_signExtend]
theorem fI_sp {f : Nat → Int32} {v : Int32} : ∀ n h, h < n → f_fillI_L5 v f n h = v := by
  intro n
  induction n with
  | zero => intro h hh; exact absurd hh (Nat.not_lt_zero _)
  | succ n ih =>
    intro h hh
    show f_fillI_L5s v n (f_fillI_L5 v f n) h = v
    unfold f_fillI_L5s
    by_cases c : h = n
    · rw [c, pk_us]
    · rw [pk_un c]; exact ih h (by omega)
theorem L52_sp {w : Nat} {f : Nat → Int32} : ∀ n j, f_Model_row_L52 w f n j = if 40 * w ≤ j ∧ j < 40 * w + n then 0 else f j := by
  intro n
  induction n with
  | zero => intro j; rw [if_neg (by omega)]; rfl
  | succ n ih =>
    intro j
    show f_Model_row_L52s w n (f_Model_row_L52 w f n) j = _
    unfold f_Model_row_L52s
    by_cases c : j = 40 * w + n
    · rw [c, pk_us, if_pos (by omega)]
    · rw [pk_un c, ih]
      by_cases d : 40 * w ≤ j ∧ j < 40 * w + n
      · rw [if_pos d, if_pos (by omega)]
      · rw [if_neg d, if_neg (by omega)]
theorem L92_sp {a i : Nat} {f s : Nat → Int32} : ∀ n k, k < n → f_Model_copy_L92 f a i s n k = f (40 * a + i + k) := by
  intro n
  induction n with
  | zero => intro k hk; exact absurd hk (Nat.not_lt_zero _)
  | succ n ih =>
    intro k hk
    show f_Model_copy_L92s f a i n (f_Model_copy_L92 f a i s n) k = _
    unfold f_Model_copy_L92s
    by_cases c : k = n
    · rw [c, pk_us]
    · rw [pk_un c]; exact ih k (by omega)
theorem L129_sp {b j : Nat} {f s : Nat → Int32} : ∀ n k, f_Model_copy_L129 s b j f n k = if 40 * b + j ≤ k ∧ k < 40 * b + j + n then s (k - (40 * b + j)) else f k := by
  intro n
  induction n with
  | zero => intro k; rw [if_neg (by omega)]; rfl
  | succ n ih =>
    intro k
    show f_Model_copy_L129s s b j n (f_Model_copy_L129 s b j f n) k = _
    unfold f_Model_copy_L129s
    by_cases c : k = 40 * b + j + n
    · rw [c, pk_us, if_pos (by omega), Nat.add_sub_cancel_left]
    · rw [pk_un c, ih]
      by_cases d : 40 * b + j ≤ k ∧ k < 40 * b + j + n
      · rw [if_pos d, if_pos (by omega)]
      · rw [if_neg d, if_neg (by omega)]
section RW_
variable {it : Nat → Nat → Int32} {lan siz lane : Nat → Int32} {many : Nat → Nat} {items spare : Nat → Int32} {fin stat : Int32}
theorem row_R {row la n : Int32} (h : rR it lan siz lane many items) (hf : fin = stat) : (f_UH_row fin it lan siz row la n).1 = (f_Model_row lane many items stat row la n).1 ∧ (f_UH_row fin it lan siz row la n).2.2.2.2 = (f_Model_row lane many items stat row la n).2.2.2.2 ∧ rR (f_UH_row fin it lan siz row la n).2.1 (f_UH_row fin it lan siz row la n).2.2.1 (f_UH_row fin it lan siz row la n).2.2.2.1 (f_Model_row lane many items stat row la n).2.1 (f_Model_row lane many items stat row la n).2.2.1 (f_Model_row lane many items stat row la n).2.2.2.1 := by
  subst hf
  unfold f_UH_row f_Model_row f_Model_in
  rcases rowC (u := row) with ⟨k, hk, rfl, g1, g2⟩ | ⟨g1, g2⟩
  · rw [g1, g2, iteT (show (0 : Int32) = 0 from rfl), iteF (show ¬ (1 : Int32) = 0 by decide)]
    by_cases c1 : la < 0
    · rw [if_pos c1, if_pos c1, iteT (show (0 : Int32) = 0 from rfl)]; exact ⟨rfl, rfl, h⟩
    by_cases c2 : 2 < la
    · rw [if_neg c1, if_pos c2, if_neg c1, if_pos c2, iteT (show (0 : Int32) = 0 from rfl)]; exact ⟨rfl, rfl, h⟩
    rw [if_neg c1, if_neg c2, if_neg c1, if_neg c2, iteF (show ¬ (1 : Int32) = 0 by decide)]
    by_cases c3 : 40 < n
    · rw [if_pos c3, if_pos c3]; exact ⟨rfl, rfl, h⟩
    by_cases c4 : n < 0
    · rw [if_neg c3, if_pos c4, if_neg c3, if_pos c4]; exact ⟨rfl, rfl, h⟩
    rw [if_neg c3, if_neg c4, if_neg c3, if_neg c4]
    have hn41 : n < nI 41 := by
      refine Int32.lt_iff_toInt_lt.mpr ?_
      have e3 : ¬ (40 : Int32).toInt < n.toInt := fun z => c3 (Int32.lt_iff_toInt_lt.mpr z)
      have e1 : (40 : Int32).toInt = 40 := by decide
      have e2 : (nI 41).toInt = 41 := by decide
      omega
    obtain ⟨m, hm, rfl⟩ := lt_nat (by omega) c4 hn41
    rw [nI_clamp (show m < 2 ^ 31 by omega), nI_clamp (show k < 2 ^ 31 by omega)]
    refine ⟨rfl, rfl, fun r hr => ?_⟩
    unfold f_Rows_make
    rw [lt_eq, lt_eq]
    dsimp only
    rw [upd_eq, upd_eq, upd_eq]
    by_cases c : r = k
    · subst c
      rw [vu_self, vu_self, vu_self, vu_self, vu_self]
      refine ⟨by omega, Or.inr ⟨rfl, rfl, ?_, fun j hj => ?_⟩⟩
      · intro z
        rw [z] at c1
        exact c1 (by decide)
      · unfold f_fillI
        rw [fI_sp 40 j hj, L52_sp, if_pos (by omega)]
    · rw [vu_ne c, vu_ne c, vu_ne c, vu_ne c, vu_ne c]
      obtain ⟨q1, q2⟩ := h r hr
      refine ⟨q1, ?_⟩
      rcases q2 with q2 | ⟨q2, q3, q4, q5⟩
      · exact Or.inl q2
      · refine Or.inr ⟨q2, q3, q4, fun j hj => ?_⟩
        rw [L52_sp, if_neg (by omega)]
        exact q5 j hj
  · rw [g1, g2, iteF (show ¬ (1 : Int32) = 0 by decide), iteT (show (0 : Int32) = 0 from rfl)]
    exact ⟨rfl, rfl, h⟩
theorem drop_R {row : Int32} (h : rR it lan siz lane many items) (hf : fin = stat) : (f_UH_drop fin siz row).1 = (f_Model_drop lane many stat row).1 ∧ (f_UH_drop fin siz row).2.2 = (f_Model_drop lane many stat row).2.2 ∧ rR it lan (f_UH_drop fin siz row).2.1 (f_Model_drop lane many stat row).2.1 many items := by
  subst hf
  unfold f_UH_drop f_Model_drop
  rcases rowC (u := row) with ⟨k, hk, rfl, g1, g2⟩ | ⟨g1, g2⟩
  · rw [g1, g2, iteT (show (0 : Int32) = 0 from rfl), iteF (show ¬ (1 : Int32) = 0 by decide), nI_clamp (show k < 2 ^ 31 by omega)]
    rcases missC h hk with ⟨m1, m2⟩ | ⟨m1, m2, m3, m4, m5, m6, m7⟩
    · rw [m1, m2, iteF (show ¬ (1 : Int32) = 0 by decide), iteF (show ¬ (1 : Int32) = 0 by decide)]
      exact ⟨rfl, rfl, h⟩
    · rw [m1, m2, iteT (show (0 : Int32) = 0 from rfl), iteT (show (0 : Int32) = 0 from rfl)]
      refine ⟨m3, rfl, fun r hr => ?_⟩
      unfold f_Rows_lose
      rw [lt_eq, lt_eq]
      dsimp only
      rw [upd_eq, upd_eq]
      by_cases c : r = k
      · subst c
        rw [vu_self, vu_self]
        exact ⟨m4, Or.inl ⟨rfl, rfl⟩⟩
      · rw [vu_ne c, vu_ne c]
        exact h r hr
  · rw [g1, g2, iteF (show ¬ (1 : Int32) = 0 by decide), iteT (show (0 : Int32) = 0 from rfl)]
    exact ⟨rfl, rfl, h⟩
theorem part1 {r : Nat} {i : Int32} (hm : many r ≤ 40) : (f_Model_isPart many r i 1 = 0 ∧ f_Model_in i 0 (nI (many r) - 1) = 0) ∨ (∃ k, k < many r ∧ i = nI k ∧ f_Model_isPart many r i 1 = 1 ∧ f_Model_in i 0 (nI (many r) - 1) = 1) := by
  have h01 : f_Model_isPart many r i 1 = 0 ∨ f_Model_isPart many r i 1 = 1 := by
    unfold f_Model_isPart
    (repeat' split) <;> first | exact Or.inl rfl | exact Or.inr rfl
  rcases inC (v := i) (N := many r) (by omega) with ⟨k, h1, h2, h3⟩ | ⟨h1, h2⟩
  · refine Or.inr ⟨k, h1, h2, ?_, h3⟩
    unfold f_Model_isPart
    rw [h2, if_neg (nI_nneg (by omega)), iteF (show ¬ (1 : Int32) < 0 by decide), if_neg (nI_nlt (by omega) (by omega)), pk_sub (by omega)]
    exact if_neg (nI_nlt (b := 1) (by omega) (by omega))
  · rcases h01 with z | z
    · exact Or.inl ⟨z, h1⟩
    · exfalso
      obtain ⟨a, c, e1, e2, e3⟩ := part_nat hm z
      have hc : c = 1 := ((nI_eq (by omega) (by omega)).mp (show nI 1 = nI c from e2)).symm
      rcases h2 with y | y
      · rw [e1] at y; exact nI_nneg (by omega) y
      · rw [e1] at y; exact y (nI_lt (by omega) (by omega))
theorem low_eq {la v : Int32} : f_Model_lowest la v = (if la = (0 : Int32) then v.toInt8.toInt32 else if la = (1 : Int32) then v.toInt16.toInt32 else v) := by
  unfold f_Model_lowest
  rw [cut8, cut16]
theorem set_R {row i v : Int32} (h : rR it lan siz lane many items) (hf : fin = stat) : (f_UH_set fin it lan siz row i v).1 = (f_Model_set lane many items stat row i v).1 ∧ (f_UH_set fin it lan siz row i v).2.2 = (f_Model_set lane many items stat row i v).2.2 ∧ rR (f_UH_set fin it lan siz row i v).2.1 lan siz lane many (f_Model_set lane many items stat row i v).2.1 := by
  subst hf
  unfold f_UH_set f_Model_set
  rcases rowC (u := row) with ⟨k, hk, rfl, g1, g2⟩ | ⟨g1, g2⟩
  · rw [g1, g2, iteT (show (0 : Int32) = 0 from rfl), iteF (show ¬ (1 : Int32) = 0 by decide), nI_clamp (show k < 2 ^ 31 by omega)]
    rcases missC h hk with ⟨m1, m2⟩ | ⟨m1, m2, m3, m4, m5, m6, m7⟩
    · rw [m1, m2, iteF (show ¬ (1 : Int32) = 0 by decide), iteF (show ¬ (1 : Int32) = 0 by decide)]
      exact ⟨rfl, rfl, h⟩
    · rw [m1, m2, iteT (show (0 : Int32) = 0 from rfl), iteT (show (0 : Int32) = 0 from rfl)]
      rcases part1 (i := i) m4 with ⟨p1, p2⟩ | ⟨a, p0, p3, p1, p2⟩
      · rcases lackC (i := i) (n := 1) m3 with ⟨l1, l2⟩ | ⟨l1, l2⟩
        · rw [l1, p2, iteF (show ¬ (1 : Int32) = 0 by decide), iteT (show (0 : Int32) = 0 from rfl)]
          exact ⟨rfl, rfl, h⟩
        · rw [p1] at l2; exact absurd l2 (by decide)
      · rcases lackC (i := i) (n := 1) m3 with ⟨l1, l2⟩ | ⟨l1, l2⟩
        · rw [p1] at l2; exact absurd l2 (by decide)
        · rw [l1, p2, iteT (show (0 : Int32) = 0 from rfl), iteF (show ¬ (1 : Int32) = 0 by decide), p3, nI_clamp (show a < 2 ^ 31 by omega)]
          unfold f_Rows_put
          rw [lt_eq, lt_eq]
          dsimp only
          rw [pk_us, m5, low_eq]
          refine ⟨rfl, rfl, fun r hr => ?_⟩
          obtain ⟨q1, q2⟩ := h r hr
          refine ⟨q1, ?_⟩
          rcases q2 with q2 | ⟨q2, q3, q4, q5⟩
          · exact Or.inl q2
          · refine Or.inr ⟨q2, q3, q4, fun j hj => ?_⟩
            by_cases c : r = k
            · subst c
              rw [vu_self]
              by_cases d : j = a
              · subst d; rw [pk_us, pk_us]
              · rw [pk_un d, pk_un (by omega)]; exact q5 j hj
            · rw [vu_ne c, pk_un (by omega)]; exact q5 j hj
  · rw [g1, g2, iteF (show ¬ (1 : Int32) = 0 by decide), iteT (show (0 : Int32) = 0 from rfl)]
    exact ⟨rfl, rfl, h⟩
theorem copy_R {a i bb j n : Int32} (h : rR it lan siz lane many items) (hf : fin = stat) : (f_UH_copy fin it lan siz a i bb j n).1 = (f_Model_copy lane many items spare stat a i bb j n).1 ∧ (f_UH_copy fin it lan siz a i bb j n).2.2 = (f_Model_copy lane many items spare stat a i bb j n).2.2.2 ∧ rR (f_UH_copy fin it lan siz a i bb j n).2.1 lan siz lane many (f_Model_copy lane many items spare stat a i bb j n).2.1 := by
  subst hf
  unfold f_UH_copy f_Model_copy
  rcases rowC (u := a) with ⟨k, hk, rfl, g1, g2⟩ | ⟨g1, g2⟩
  · rw [g1, g2, iteT (show (0 : Int32) = 0 from rfl), iteF (show ¬ (1 : Int32) = 0 by decide), nI_clamp (show k < 2 ^ 31 by omega)]
    rcases rowC (u := bb) with ⟨l, hl, rfl, g3, g4⟩ | ⟨g3, g4⟩
    · rw [g3, g4, iteT (show (0 : Int32) = 0 from rfl), iteF (show ¬ (1 : Int32) = 0 by decide), nI_clamp (show l < 2 ^ 31 by omega)]
      rcases missC h hk with ⟨m1, m2⟩ | ⟨m1, m2, m3, m4, m5, m6, m7⟩
      · rw [m1, m2, iteF (show ¬ (1 : Int32) = 0 by decide), iteF (show ¬ (1 : Int32) = 0 by decide)]
        exact ⟨rfl, rfl, h⟩
      · rw [m1, m2, iteT (show (0 : Int32) = 0 from rfl), iteT (show (0 : Int32) = 0 from rfl)]
        rcases missC h hl with ⟨o1, o2⟩ | ⟨o1, o2, o3, o4, o5, o6, o7⟩
        · rw [o1, o2, iteF (show ¬ (1 : Int32) = 0 by decide), iteF (show ¬ (1 : Int32) = 0 by decide)]
          exact ⟨rfl, rfl, h⟩
        · rw [o1, o2, iteT (show (0 : Int32) = 0 from rfl), iteT (show (0 : Int32) = 0 from rfl), m5, o5]
          by_cases cl : lan k = lan l
          · rw [if_pos cl, if_pos cl]
            rcases lackC (i := i) (n := n) m3 with ⟨l1, l2⟩ | ⟨l1, l2⟩
            · rw [l1, l2, iteF (show ¬ (1 : Int32) = 0 by decide), iteT (show (0 : Int32) = 0 from rfl)]
              exact ⟨rfl, rfl, h⟩
            · rw [l1, l2, iteT (show (0 : Int32) = 0 from rfl), iteF (show ¬ (1 : Int32) = 0 by decide)]
              obtain ⟨x, c, rfl, rfl, e3⟩ := part_nat m4 l2
              rw [nI_clamp (show c < 2 ^ 31 by omega), nI_clamp (show x < 2 ^ 31 by omega)]
              rcases lackC (i := j) (n := nI c) o3 with ⟨p1, p2⟩ | ⟨p1, p2⟩
              · rw [p1, p2, iteF (show ¬ (1 : Int32) = 0 by decide), iteT (show (0 : Int32) = 0 from rfl)]
                exact ⟨rfl, rfl, h⟩
              · rw [p1, p2, iteT (show (0 : Int32) = 0 from rfl), iteF (show ¬ (1 : Int32) = 0 by decide)]
                obtain ⟨y, c', rfl, ec, e4⟩ := part_nat o4 p2
                have hcc : c = c' := (nI_eq (by omega) (by omega)).mp ec
                subst hcc
                rw [nI_clamp (show y < 2 ^ 31 by omega)]
                refine ⟨rfl, rfl, fun r hr => ?_⟩
                rw [lt_eq]
                dsimp only
                obtain ⟨q1, q2⟩ := h r hr
                refine ⟨q1, ?_⟩
                rcases q2 with q2 | ⟨q2, q3, q4, q5⟩
                · exact Or.inl q2
                · refine Or.inr ⟨q2, q3, q4, fun t ht => ?_⟩
                  rw [L129_sp]
                  by_cases cr : r = l
                  · subst cr
                    rw [vu_self]
                    unfold va_cpy
                    by_cases d : y ≤ t ∧ t < y + c
                    · rw [if_pos d, if_pos (by omega), L92_sp _ _ (by omega), m7 _ (by omega)]
                      exact congrArg items (by omega)
                    · rw [if_neg d, if_neg (by omega)]; exact q5 t ht
                  · rw [vu_ne cr, if_neg (by omega)]; exact q5 t ht
          · rw [if_neg cl, if_neg cl]
            exact ⟨rfl, rfl, h⟩
    · rw [g3, g4, iteF (show ¬ (1 : Int32) = 0 by decide), iteT (show (0 : Int32) = 0 from rfl)]
      exact ⟨rfl, rfl, h⟩
  · rw [g1, g2, iteF (show ¬ (1 : Int32) = 0 by decide), iteT (show (0 : Int32) = 0 from rfl)]
    exact ⟨rfl, rfl, h⟩
theorem there_eq (h : rR it lan siz lane many items) : f_Rows_countThere siz = f_Rows_countThere_L4 siz 0 8 := rfl
end RW_
