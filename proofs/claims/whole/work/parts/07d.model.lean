section MZ
variable {Z : mZ} {own : String} {cc : ByteArray} {nL n pc : Nat} {lv : List (Nat × Value)} {st : List Value} {h : mHp}
theorem r_zast1 (X : mCx Z own cc nL n) {a N k0 : Nat} {f : Nat → Int32} (d : decode cc pc = .ok (.bastore, 1)) (he : h a = some (.inl (2, N, .inl f))) (hi : k0 < N) (hN : N < 2 ^ 31) (k : SW Z (pc + 1) lv st (va_up h a (some (.inl (2, N, .inl (upd f k0 1)))))) : SW Z pc lv (.int 1 :: .int (nI k0) :: .ref a :: st) h := by
  obtain ⟨G, ⟨p, l, e, R, s, m, args, below, meth, c⟩, ⟨nL', cells, slots⟩, Q, L⟩ := Z
  intro H locs ls hR hS hl
  obtain ⟨q, hq⟩ := hR.get he
  have e1 : vp_nar .boolean (1 : Int32) = 1 := by decide
  have e2 : (nI k0).toNatClampNeg = k0 := nI_clamp (by omega)
  refine va_zast X.1 X.2.1 X.2.2.2.2.2.2.1.1 hR.2.1 hR.2.2 hS q 2 hq rfl (vp_in_nI hi hN) d (fun H1 locs1 hP hD hS1 => ?_)
  rw [e1, e2] at hP hD
  exact k H1 locs1 ls (hR.set (e := .inl (2, N, .inl (upd f k0 1))) he hq hP hD) hS1 hl
end MZ
theorem unit_le {U : Nat} (h : U ≤ 4) : (if nI U < (4 : Int32) then U else 0) ≤ 3 := by
  split
  · rename_i c
    have := nI_ltX (b := 4) c (by omega) (by omega)
    omega
  · omega

def f_Model_copy_L92s (items : Nat → Int32) (n1 : Nat) (n2 : Nat) (k92 : Nat) (spare : Nat → Int32) : (Nat → Int32) := upd spare k92 (items (((40 * n1) + n2) + k92))
def f_Model_copy_L92 (items : Nat → Int32) (n1 : Nat) (n2 : Nat) (spare : Nat → Int32) : Nat → (Nat → Int32)
  | 0 => spare
  | k92 + 1 => f_Model_copy_L92s items n1 n2 k92 (f_Model_copy_L92 items n1 n2 spare k92)
def f_Model_copy_L129s (spare : Nat → Int32) (n3 : Nat) (n4 : Nat) (k129 : Nat) (items : Nat → Int32) : (Nat → Int32) := upd items (((40 * n3) + n4) + k129) (spare k129)
def f_Model_copy_L129 (spare : Nat → Int32) (n3 : Nat) (n4 : Nat) (items : Nat → Int32) : Nat → (Nat → Int32)
  | 0 => items
  | k129 + 1 => f_Model_copy_L129s spare n3 n4 k129 (f_Model_copy_L129 spare n3 n4 items k129)
def f_Model_copy (lane : Nat → Int32) (many : Nat → Nat) (items : Nat → Int32) (spare : Nat → Int32) (stat : Int32) (a : Int32) (i : Int32) (bb : Int32) (j : Int32) (n : Int32) : Int32 × (Nat → Int32) × (Nat → Int32) × Int32 := (if (f_Model_isRow a) = (0 : Int32) then ((-1000001 : Int32), items, spare, stat) else (if (f_Model_isRow bb) = (0 : Int32) then ((-1000001 : Int32), items, spare, stat) else (if (f_Model_isMissing lane (a.toNatClampNeg)) = (0 : Int32) then (if (f_Model_isMissing lane (bb.toNatClampNeg)) = (0 : Int32) then (if (lane (a.toNatClampNeg)) = (lane (bb.toNatClampNeg)) then (if (f_Model_isPart many (a.toNatClampNeg) i n) = (0 : Int32) then ((fun q2 => (q2.1, items, spare, q2.2)) (f_Model_found (2 : Int32))) else (if (f_Model_isPart many (bb.toNatClampNeg) j (nI (n.toNatClampNeg))) = (0 : Int32) then ((fun q4 => (q4.1, items, spare, q4.2)) (f_Model_found (2 : Int32))) else ((fun q3 => (q3.1, (f_Model_copy_L129 (f_Model_copy_L92 items (a.toNatClampNeg) (i.toNatClampNeg) spare (n.toNatClampNeg)) (bb.toNatClampNeg) (j.toNatClampNeg) items (n.toNatClampNeg)), (f_Model_copy_L92 items (a.toNatClampNeg) (i.toNatClampNeg) spare (n.toNatClampNeg)), q3.2)) (f_Model_well (nI (n.toNatClampNeg)))))) else ((fun q5 => (q5.1, items, spare, q5.2)) (f_Model_found (5 : Int32)))) else ((fun q6 => (q6.1, items, spare, q6.2)) (f_Model_found (1 : Int32)))) else ((fun q1 => (q1.1, items, spare, q1.2)) (f_Model_found (1 : Int32))))))
set_option maxRecDepth 20000 in
set_option maxHeartbeats 4000000 in
theorem c_Model_copy {G : mG} {h : mHp} {b : Nat} {lane : Nat → Int32} {many : Nat → Nat} {items : Nat → Int32} {spare : Nat → Int32} {stat : Int32} {tape : Nat → Int32} {taped : Nat} {fk : Int32} {fp : Int32} {mat : Nat} {mst : Nat} {tok : Int32} {mval : Int32} {W : Nat → Nat → Int32} {past : Nat → Int32} {nac : Nat} {imgs : Nat → Int32} {kept : Nat → Int32} {gvn : Nat → Int32} {costs : Nat → Int32} {lst : Nat → Int32} {sets : Nat → Int32} {bst : Int32} {mlo : Int64} {mal : Int32} {mpr : Nat → Int64} {lak : Nat → Int64} {trc : Nat → Int32} {ntr : Nat} {a : Int32} {i : Int32} {bb : Int32} {j : Int32} {n : Int32}   (hm : ∀ j, j < 8 → many j ≤ 40) : Ret G 2 mX8_copy [.ref b, .int a, .int i, .int bb, .int j, .int n] (ov h b (modL b lane many items spare stat tape taped fk fp mat mst tok mval W past nac imgs kept gvn costs lst sets bst mlo mal mpr lak trc ntr)) (some (.int (f_Model_copy lane many items spare stat a i bb j n).1)) (ov h b (modL b lane many (f_Model_copy lane many items spare stat a i bb j n).2.1 (f_Model_copy lane many items spare stat a i bb j n).2.2.1 (f_Model_copy lane many items spare stat a i bb j n).2.2.2 tape taped fk fp mat mst tok mval W past nac imgs kept gvn costs lst sets bst mlo mal mpr lak trc ntr)) := by
  generalize hf : f_Model_copy lane many items spare stat a i bb j n = R
  unfold f_Model_copy at hf
  refine Ret.of [(0, .ref b), (1, .int a), (2, .int i), (3, .int bb), (4, .int j), (5, .int n)] (by decide) (Nat.le_of_ble_eq_true rfl) rfl ?_
  rintro Z rfl X Y
  have hv_b : isV (ov h b (modL b lane many items spare stat tape taped fk fp mat mst tok mval W past nac imgs kept gvn costs lst sets bst mlo mal mpr lak trc ntr)) b (modL b lane many items spare stat tape taped fk fp mat mst tok mval W past nac imgs kept gvn costs lst sets bst mlo mal mpr lak trc ntr) := ov_isV
  refine r_iload_n X 1 dX8_copy_0 rfl ?_
  refine cl_X8_76 X (by decide) dX8_copy_1 (Nat.le_of_ble_eq_true rfl) (c_Model_isRow  ) ?_
  refine r_if_eq X 14 dX8_copy_4 rfl (fun cr => ?_) (fun cr => ?_)
  · rw [if_pos cr] at hf
    refine r_ldc X dX8_copy_14 kk_X8_80 ?_
    try subst hf
    exact r_ireturn X Y dX8_copy_16 rfl rfl
  · rw [if_neg cr] at hf
    obtain ⟨r, hr, rfl⟩ := isRow_nat cr
    try simp only [nI_clamp (show r < 2 ^ 31 by omega)] at hf
    refine r_iload_n X 3 dX8_copy_7 rfl ?_
    refine cl_X8_76 X (by decide) dX8_copy_8 (Nat.le_of_ble_eq_true rfl) (c_Model_isRow  ) ?_
    refine r_if_ne X 17 dX8_copy_11 rfl (fun cs => ?_) (fun cs => ?_)
    · rw [if_neg cs] at hf
      obtain ⟨rb, hrb, rfl⟩ := isRow_nat cs
      try simp only [nI_clamp (show rb < 2 ^ 31 by omega)] at hf
      refine r_aload_n X 0 dX8_copy_17 rfl ?_
      refine r_iload_n X 1 dX8_copy_18 rfl ?_
      refine cl_X8_88 X (by decide) dX8_copy_19 (Nat.le_of_ble_eq_true rfl) (hv_b 0 _ rfl) (c_Model_isMissing hv_b (by first | assumption | omega)) ?_
      refine r_if_ne X 33 dX8_copy_22 rfl (fun c1 => ?_) (fun c1 => ?_)
      · rw [if_neg c1] at hf
        refine r_aload_n X 0 dX8_copy_33 rfl ?_
        refine r_iconst X (1 : Int32) dX8_copy_34 (by decide) ?_
        refine cl_X8_81 X (by decide) dX8_copy_35 (Nat.le_of_ble_eq_true rfl) (hv_b 0 _ rfl) (c_Model_found  ) ?_
        obtain ⟨q1, eq1⟩ : ∃ q, q = f_Model_found (1 : Int32) := ⟨_, rfl⟩
        rw [← eq1]
        rw [← eq1] at hf
        try dsimp only at hf
        have hv_b : isV (ov h b (modL b lane many items spare q1.2 tape taped fk fp mat mst tok mval W past nac imgs kept gvn costs lst sets bst mlo mal mpr lak trc ntr)) b (modL b lane many items spare q1.2 tape taped fk fp mat mst tok mval W past nac imgs kept gvn costs lst sets bst mlo mal mpr lak trc ntr) := ov_isV
        try subst hf
        exact r_ireturn X Y dX8_copy_38 rfl rfl
      · rw [if_pos c1] at hf
        refine r_aload_n X 0 dX8_copy_25 rfl ?_
        refine r_iload_n X 3 dX8_copy_26 rfl ?_
        refine cl_X8_88 X (by decide) dX8_copy_27 (Nat.le_of_ble_eq_true rfl) (hv_b 0 _ rfl) (c_Model_isMissing hv_b (by first | assumption | omega)) ?_
        refine r_if_eq X 39 dX8_copy_30 rfl (fun c2 => ?_) (fun c2 => ?_)
        · rw [if_pos c2] at hf
          refine r_aload_n X 0 dX8_copy_39 rfl ?_
          refine gf_X8_7 X dX8_copy_40 (hv_b 0 _ rfl) rfl ?_
          refine r_iload_n X 1 dX8_copy_43 rfl ?_
          refine r_ialdn X (k0 := r) dX8_copy_44 (hv_b 1 _ rfl) (by omega) (by decide) ?_
          refine r_aload_n X 0 dX8_copy_45 rfl ?_
          refine gf_X8_7 X dX8_copy_46 (hv_b 0 _ rfl) rfl ?_
          refine r_iload_n X 3 dX8_copy_49 rfl ?_
          refine r_ialdn X (k0 := rb) dX8_copy_50 (hv_b 1 _ rfl) (by omega) (by decide) ?_
          refine r_icmp_eq X 60 dX8_copy_51 rfl (fun c3 => ?_) (fun c3 => ?_)
          · rw [if_pos c3] at hf
            refine r_aload_n X 0 dX8_copy_60 rfl ?_
            refine r_iload_n X 1 dX8_copy_61 rfl ?_
            refine r_iload_n X 2 dX8_copy_62 rfl ?_
            refine r_iload X 5 dX8_copy_63 rfl ?_
            refine cl_X8_95 X (by decide) dX8_copy_65 (Nat.le_of_ble_eq_true rfl) (hv_b 0 _ rfl) (c_Model_isPart hv_b (by first | assumption | omega)) ?_
            refine r_if_eq X 83 dX8_copy_68 rfl (fun cp => ?_) (fun cp => ?_)
            · rw [if_pos cp] at hf
              refine r_aload_n X 0 dX8_copy_83 rfl ?_
              refine r_iconst X (2 : Int32) dX8_copy_84 (by decide) ?_
              refine cl_X8_81 X (by decide) dX8_copy_85 (Nat.le_of_ble_eq_true rfl) (hv_b 0 _ rfl) (c_Model_found  ) ?_
              obtain ⟨q2, eq2⟩ : ∃ q, q = f_Model_found (2 : Int32) := ⟨_, rfl⟩
              rw [← eq2]
              rw [← eq2] at hf
              try dsimp only at hf
              have hv_b : isV (ov h b (modL b lane many items spare q2.2 tape taped fk fp mat mst tok mval W past nac imgs kept gvn costs lst sets bst mlo mal mpr lak trc ntr)) b (modL b lane many items spare q2.2 tape taped fk fp mat mst tok mval W past nac imgs kept gvn costs lst sets bst mlo mal mpr lak trc ntr) := ov_isV
              try subst hf
              exact r_ireturn X Y dX8_copy_88 rfl rfl
            · rw [if_neg cp] at hf
              obtain ⟨mm, hmm, rfl⟩ := isPart2_nat (hm _ hr) cp
              try simp only [nI_clamp (show mm < 2 ^ 31 by omega)] at hf
              refine r_aload_n X 0 dX8_copy_71 rfl ?_
              refine r_iload_n X 3 dX8_copy_72 rfl ?_
              refine r_iload X 4 dX8_copy_73 rfl ?_
              refine r_iload X 5 dX8_copy_75 rfl ?_
              refine cl_X8_95 X (by decide) dX8_copy_77 (Nat.le_of_ble_eq_true rfl) (hv_b 0 _ rfl) (c_Model_isPart hv_b (by first | assumption | omega)) ?_
              refine r_if_ne X 89 dX8_copy_80 rfl (fun cq => ?_) (fun cq => ?_)
              · rw [if_neg cq] at hf
                obtain ⟨i0, hi0, rfl⟩ := isPart_nat (hm _ hr) (by omega) cp
                have hm1 := hm _ hr
                have hm2 := hm _ hrb
                try simp only [nI_clamp (show i0 < 2 ^ 31 by omega)] at hf
                refine r_iconst X (0 : Int32) dX8_copy_89 (by decide) ?_
                obtain ⟨j0, hj0, rfl⟩ := isPart_nat (hm _ hrb) (by omega) cq
                try simp only [nI_clamp (show j0 < 2 ^ 31 by omega)] at hf
                refine r_istore [(0, .ref b), (1, .int (nI r)), (2, .int (nI i0)), (3, .int (nI rb)), (4, .int (nI j0)), (5, .int (nI mm)), (6, .int (0 : Int32))] X dX8_copy_90 (by decide) rfl ?_
                refine loop_up (P := fun k4 => SW Z 92 [(0, .ref b), (1, .int (nI r)), (2, .int (nI i0)), (3, .int (nI rb)), (4, .int (nI j0)), (5, .int (nI mm)), (6, .int (nI k4))] [] (ov h b (modL b lane many items (f_Model_copy_L92 items r i0 spare k4) stat tape taped fk fp mat mst tok mval W past nac imgs kept gvn costs lst sets bst mlo mal mpr lak trc ntr))) mm ?_ ?_ 0 (Nat.zero_le _)
                rotate_left
                · intro k4 hk4 ih
                  have hv_b : isV (ov h b (modL b lane many items (f_Model_copy_L92 items r i0 spare k4) stat tape taped fk fp mat mst tok mval W past nac imgs kept gvn costs lst sets bst mlo mal mpr lak trc ntr)) b (modL b lane many items (f_Model_copy_L92 items r i0 spare k4) stat tape taped fk fp mat mst tok mval W past nac imgs kept gvn costs lst sets bst mlo mal mpr lak trc ntr) := ov_isV
                  refine r_iload X 6 dX8_copy_92 rfl ?_
                  refine r_iload X 5 dX8_copy_94 rfl ?_
                  refine r_icmp_ge X 126 dX8_copy_96 rfl (fun z => absurd (nI_lt (a := k4) (b := mm) (by omega) (by omega)) z) (fun _ => ?_)
                  refine r_aload_n X 0 dX8_copy_99 rfl ?_
                  refine gf_X8_19 X dX8_copy_100 (hv_b 0 _ rfl) rfl ?_
                  refine r_iload X 6 dX8_copy_103 rfl ?_
                  refine r_aload_n X 0 dX8_copy_105 rfl ?_
                  refine gf_X8_16 X dX8_copy_106 (hv_b 0 _ rfl) rfl ?_
                  refine r_bipush X (40 : Int32) dX8_copy_109 (by decide) ?_
                  refine r_iload_n X 1 dX8_copy_111 rfl ?_
                  refine r_imuln X (a := 40) (b := r) dX8_copy_112 ?_
                  refine r_iload_n X 2 dX8_copy_113 rfl ?_
                  refine r_iaddn X (a := 40 * r) (b := i0) dX8_copy_114 ?_
                  refine r_iload X 6 dX8_copy_115 rfl ?_
                  refine r_iaddn X (a := (40 * r) + i0) (b := k4) dX8_copy_117 ?_
                  refine r_ialdn X (k0 := ((40 * r) + i0) + k4) dX8_copy_118 (hv_b 3 _ rfl) (by omega) (by decide) ?_
                  refine r_iastn X (k0 := k4) dX8_copy_119 (hv_b 4 _ rfl) (by omega) (by first | decide | omega) ?_
                  refine SW.heq (h2 := (ov h b (modL b lane many items (upd (f_Model_copy_L92 items r i0 spare k4) k4 (items (((40 * r) + i0) + k4))) stat tape taped fk fp mat mst tok mval W past nac imgs kept gvn costs lst sets bst mlo mal mpr lak trc ntr))) (ov_up 4 (Nat.le_of_ble_eq_true rfl) rfl) ?_
                  have hv_b : isV (ov h b (modL b lane many items (upd (f_Model_copy_L92 items r i0 spare k4) k4 (items (((40 * r) + i0) + k4))) stat tape taped fk fp mat mst tok mval W past nac imgs kept gvn costs lst sets bst mlo mal mpr lak trc ntr)) b (modL b lane many items (upd (f_Model_copy_L92 items r i0 spare k4) k4 (items (((40 * r) + i0) + k4))) stat tape taped fk fp mat mst tok mval W past nac imgs kept gvn costs lst sets bst mlo mal mpr lak trc ntr) := ov_isV
                  refine r_iinc [(0, .ref b), (1, .int (nI r)), (2, .int (nI i0)), (3, .int (nI rb)), (4, .int (nI j0)), (5, .int (nI mm)), (6, .int (nI (k4 + 1)))] X (nI (k4 + 1)) 6 dX8_copy_120 rfl (nI_succ _).symm (by decide) rfl ?_
                  refine r_goto X 92 dX8_copy_123 rfl ?_
                  exact ih
                have hv_b : isV (ov h b (modL b lane many items (f_Model_copy_L92 items r i0 spare mm) stat tape taped fk fp mat mst tok mval W past nac imgs kept gvn costs lst sets bst mlo mal mpr lak trc ntr)) b (modL b lane many items (f_Model_copy_L92 items r i0 spare mm) stat tape taped fk fp mat mst tok mval W past nac imgs kept gvn costs lst sets bst mlo mal mpr lak trc ntr) := ov_isV
                refine r_iload X 6 dX8_copy_92 rfl ?_
                refine r_iload X 5 dX8_copy_94 rfl ?_
                refine r_icmp_ge X 126 dX8_copy_96 rfl (fun _ => ?_) (fun z => absurd z (nI_nlt (a := mm) (b := mm) (by omega) (by omega)))
                refine r_iconst X (0 : Int32) dX8_copy_126 (by decide) ?_
                refine r_istore [(0, .ref b), (1, .int (nI r)), (2, .int (nI i0)), (3, .int (nI rb)), (4, .int (nI j0)), (5, .int (nI mm)), (6, .int (0 : Int32))] X dX8_copy_127 (by decide) rfl ?_
                refine SW.pick [0, 3, 4, 5, 6] [(0, .ref b), (3, .int (nI rb)), (4, .int (nI j0)), (5, .int (nI mm)), (6, .int (0 : Int32))] rfl ?_
                refine loop_up (P := fun k5 => SW Z 129 [(0, .ref b), (3, .int (nI rb)), (4, .int (nI j0)), (5, .int (nI mm)), (6, .int (nI k5))] [] (ov h b (modL b lane many (f_Model_copy_L129 (f_Model_copy_L92 items r i0 spare mm) rb j0 items k5) (f_Model_copy_L92 items r i0 spare mm) stat tape taped fk fp mat mst tok mval W past nac imgs kept gvn costs lst sets bst mlo mal mpr lak trc ntr))) mm ?_ ?_ 0 (Nat.zero_le _)
                rotate_left
                · intro k5 hk5 ih
                  have hv_b : isV (ov h b (modL b lane many (f_Model_copy_L129 (f_Model_copy_L92 items r i0 spare mm) rb j0 items k5) (f_Model_copy_L92 items r i0 spare mm) stat tape taped fk fp mat mst tok mval W past nac imgs kept gvn costs lst sets bst mlo mal mpr lak trc ntr)) b (modL b lane many (f_Model_copy_L129 (f_Model_copy_L92 items r i0 spare mm) rb j0 items k5) (f_Model_copy_L92 items r i0 spare mm) stat tape taped fk fp mat mst tok mval W past nac imgs kept gvn costs lst sets bst mlo mal mpr lak trc ntr) := ov_isV
                  refine r_iload X 4 dX8_copy_129 rfl ?_
                  refine r_iload X 3 dX8_copy_131 rfl ?_
                  refine r_icmp_ge X 164 dX8_copy_133 rfl (fun z => absurd (nI_lt (a := k5) (b := mm) (by omega) (by omega)) z) (fun _ => ?_)
                  refine r_aload_n X 0 dX8_copy_136 rfl ?_
                  refine gf_X8_16 X dX8_copy_137 (hv_b 0 _ rfl) rfl ?_
                  refine r_bipush X (40 : Int32) dX8_copy_140 (by decide) ?_
                  refine r_iload_n X 1 dX8_copy_142 rfl ?_
                  refine r_imuln X (a := 40) (b := rb) dX8_copy_143 ?_
                  refine r_iload X 2 dX8_copy_144 rfl ?_
                  refine r_iaddn X (a := 40 * rb) (b := j0) dX8_copy_146 ?_
                  refine r_iload X 4 dX8_copy_147 rfl ?_
                  refine r_iaddn X (a := (40 * rb) + j0) (b := k5) dX8_copy_149 ?_
                  refine r_aload_n X 0 dX8_copy_150 rfl ?_
                  refine gf_X8_19 X dX8_copy_151 (hv_b 0 _ rfl) rfl ?_
                  refine r_iload X 4 dX8_copy_154 rfl ?_
                  refine r_ialdn X (k0 := k5) dX8_copy_156 (hv_b 4 _ rfl) (by omega) (by decide) ?_
                  refine r_iastn X (k0 := ((40 * rb) + j0) + k5) dX8_copy_157 (hv_b 3 _ rfl) (by omega) (by first | decide | omega) ?_
                  refine SW.heq (h2 := (ov h b (modL b lane many (upd (f_Model_copy_L129 (f_Model_copy_L92 items r i0 spare mm) rb j0 items k5) (((40 * rb) + j0) + k5) ((f_Model_copy_L92 items r i0 spare mm) k5)) (f_Model_copy_L92 items r i0 spare mm) stat tape taped fk fp mat mst tok mval W past nac imgs kept gvn costs lst sets bst mlo mal mpr lak trc ntr))) (ov_up 3 (Nat.le_of_ble_eq_true rfl) rfl) ?_
                  have hv_b : isV (ov h b (modL b lane many (upd (f_Model_copy_L129 (f_Model_copy_L92 items r i0 spare mm) rb j0 items k5) (((40 * rb) + j0) + k5) ((f_Model_copy_L92 items r i0 spare mm) k5)) (f_Model_copy_L92 items r i0 spare mm) stat tape taped fk fp mat mst tok mval W past nac imgs kept gvn costs lst sets bst mlo mal mpr lak trc ntr)) b (modL b lane many (upd (f_Model_copy_L129 (f_Model_copy_L92 items r i0 spare mm) rb j0 items k5) (((40 * rb) + j0) + k5) ((f_Model_copy_L92 items r i0 spare mm) k5)) (f_Model_copy_L92 items r i0 spare mm) stat tape taped fk fp mat mst tok mval W past nac imgs kept gvn costs lst sets bst mlo mal mpr lak trc ntr) := ov_isV
                  refine r_iinc [(0, .ref b), (3, .int (nI rb)), (4, .int (nI j0)), (5, .int (nI mm)), (6, .int (nI (k5 + 1)))] X (nI (k5 + 1)) 4 dX8_copy_158 rfl (nI_succ _).symm (by decide) rfl ?_
                  refine r_goto X 129 dX8_copy_161 rfl ?_
                  exact ih
                have hv_b : isV (ov h b (modL b lane many (f_Model_copy_L129 (f_Model_copy_L92 items r i0 spare mm) rb j0 items mm) (f_Model_copy_L92 items r i0 spare mm) stat tape taped fk fp mat mst tok mval W past nac imgs kept gvn costs lst sets bst mlo mal mpr lak trc ntr)) b (modL b lane many (f_Model_copy_L129 (f_Model_copy_L92 items r i0 spare mm) rb j0 items mm) (f_Model_copy_L92 items r i0 spare mm) stat tape taped fk fp mat mst tok mval W past nac imgs kept gvn costs lst sets bst mlo mal mpr lak trc ntr) := ov_isV
                refine r_iload X 4 dX8_copy_129 rfl ?_
                refine r_iload X 3 dX8_copy_131 rfl ?_
                refine r_icmp_ge X 164 dX8_copy_133 rfl (fun _ => ?_) (fun z => absurd z (nI_nlt (a := mm) (b := mm) (by omega) (by omega)))
                refine r_aload_n X 0 dX8_copy_164 rfl ?_
                refine r_iload X 3 dX8_copy_165 rfl ?_
                refine cl_X8_85 X (by decide) dX8_copy_167 (Nat.le_of_ble_eq_true rfl) (hv_b 0 _ rfl) (c_Model_well  ) ?_
                obtain ⟨q3, eq3⟩ : ∃ q, q = f_Model_well (nI mm) := ⟨_, rfl⟩
                rw [← eq3]
                rw [← eq3] at hf
                try dsimp only at hf
                have hv_b : isV (ov h b (modL b lane many (f_Model_copy_L129 (f_Model_copy_L92 items r i0 spare mm) rb j0 items mm) (f_Model_copy_L92 items r i0 spare mm) q3.2 tape taped fk fp mat mst tok mval W past nac imgs kept gvn costs lst sets bst mlo mal mpr lak trc ntr)) b (modL b lane many (f_Model_copy_L129 (f_Model_copy_L92 items r i0 spare mm) rb j0 items mm) (f_Model_copy_L92 items r i0 spare mm) q3.2 tape taped fk fp mat mst tok mval W past nac imgs kept gvn costs lst sets bst mlo mal mpr lak trc ntr) := ov_isV
                try subst hf
                exact r_ireturn X Y dX8_copy_170 rfl rfl
              · rw [if_pos cq] at hf
                refine r_aload_n X 0 dX8_copy_83 rfl ?_
                refine r_iconst X (2 : Int32) dX8_copy_84 (by decide) ?_
                refine cl_X8_81 X (by decide) dX8_copy_85 (Nat.le_of_ble_eq_true rfl) (hv_b 0 _ rfl) (c_Model_found  ) ?_
                obtain ⟨q4, eq4⟩ : ∃ q, q = f_Model_found (2 : Int32) := ⟨_, rfl⟩
                rw [← eq4]
                rw [← eq4] at hf
                try dsimp only at hf
                have hv_b : isV (ov h b (modL b lane many items spare q4.2 tape taped fk fp mat mst tok mval W past nac imgs kept gvn costs lst sets bst mlo mal mpr lak trc ntr)) b (modL b lane many items spare q4.2 tape taped fk fp mat mst tok mval W past nac imgs kept gvn costs lst sets bst mlo mal mpr lak trc ntr) := ov_isV
                try subst hf
                exact r_ireturn X Y dX8_copy_88 rfl rfl
          · rw [if_neg c3] at hf
            refine r_aload_n X 0 dX8_copy_54 rfl ?_
            refine r_iconst X (5 : Int32) dX8_copy_55 (by decide) ?_
            refine cl_X8_81 X (by decide) dX8_copy_56 (Nat.le_of_ble_eq_true rfl) (hv_b 0 _ rfl) (c_Model_found  ) ?_
            obtain ⟨q5, eq5⟩ : ∃ q, q = f_Model_found (5 : Int32) := ⟨_, rfl⟩
            rw [← eq5]
            rw [← eq5] at hf
            try dsimp only at hf
            have hv_b : isV (ov h b (modL b lane many items spare q5.2 tape taped fk fp mat mst tok mval W past nac imgs kept gvn costs lst sets bst mlo mal mpr lak trc ntr)) b (modL b lane many items spare q5.2 tape taped fk fp mat mst tok mval W past nac imgs kept gvn costs lst sets bst mlo mal mpr lak trc ntr) := ov_isV
            try subst hf
            exact r_ireturn X Y dX8_copy_59 rfl rfl
        · rw [if_neg c2] at hf
          refine r_aload_n X 0 dX8_copy_33 rfl ?_
          refine r_iconst X (1 : Int32) dX8_copy_34 (by decide) ?_
          refine cl_X8_81 X (by decide) dX8_copy_35 (Nat.le_of_ble_eq_true rfl) (hv_b 0 _ rfl) (c_Model_found  ) ?_
          obtain ⟨q6, eq6⟩ : ∃ q, q = f_Model_found (1 : Int32) := ⟨_, rfl⟩
          rw [← eq6]
          rw [← eq6] at hf
          try dsimp only at hf
          have hv_b : isV (ov h b (modL b lane many items spare q6.2 tape taped fk fp mat mst tok mval W past nac imgs kept gvn costs lst sets bst mlo mal mpr lak trc ntr)) b (modL b lane many items spare q6.2 tape taped fk fp mat mst tok mval W past nac imgs kept gvn costs lst sets bst mlo mal mpr lak trc ntr) := ov_isV
          try subst hf
          exact r_ireturn X Y dX8_copy_38 rfl rfl
    · rw [if_pos cs] at hf
      refine r_ldc X dX8_copy_14 kk_X8_80 ?_
      try subst hf
      exact r_ireturn X Y dX8_copy_16 rfl rfl

def f_Model_image (W : Nat → Nat → Int32) (imgs : Nat → Int32) (kept : Nat → Int32) (k : Int32) : Int32 × (Nat → Int32) × (Nat → Int32) := (if (f_Model_in k (0 : Int32) (1 : Int32)) = (0 : Int32) then ((-1000001 : Int32), imgs, kept) else (if (f_Model_isDay W) = (0 : Int32) then ((-1000002 : Int32), imgs, kept) else ((1 : Int32), f_copies (W 0) imgs 0 (41 * (k.toNatClampNeg)), upd kept (k.toNatClampNeg) (1 : Int32))))
set_option maxRecDepth 20000 in
set_option maxHeartbeats 4000000 in
theorem c_Model_image {G : mG} {h : mHp} {b : Nat} {lane : Nat → Int32} {many : Nat → Nat} {items : Nat → Int32} {spare : Nat → Int32} {stat : Int32} {tape : Nat → Int32} {taped : Nat} {fk : Int32} {fp : Int32} {mat : Nat} {mst : Nat} {tok : Int32} {mval : Int32} {W : Nat → Nat → Int32} {past : Nat → Int32} {nac : Nat} {imgs : Nat → Int32} {kept : Nat → Int32} {gvn : Nat → Int32} {costs : Nat → Int32} {lst : Nat → Int32} {sets : Nat → Int32} {bst : Int32} {mlo : Int64} {mal : Int32} {mpr : Nat → Int64} {lak : Nat → Int64} {trc : Nat → Int32} {ntr : Nat} {k : Int32}    : Ret G 1 mX8_image [.ref b, .int k] (ov h b (modL b lane many items spare stat tape taped fk fp mat mst tok mval W past nac imgs kept gvn costs lst sets bst mlo mal mpr lak trc ntr)) (some (.int (f_Model_image W imgs kept k).1)) (ov h b (modL b lane many items spare stat tape taped fk fp mat mst tok mval W past nac (f_Model_image W imgs kept k).2.1 (f_Model_image W imgs kept k).2.2 gvn costs lst sets bst mlo mal mpr lak trc ntr)) := by
  generalize hf : f_Model_image W imgs kept k = R
  unfold f_Model_image at hf
  refine Ret.of [(0, .ref b), (1, .int k)] (by decide) (Nat.le_of_ble_eq_true rfl) rfl ?_
  rintro Z rfl X Y
  have hv_b : isV (ov h b (modL b lane many items spare stat tape taped fk fp mat mst tok mval W past nac imgs kept gvn costs lst sets bst mlo mal mpr lak trc ntr)) b (modL b lane many items spare stat tape taped fk fp mat mst tok mval W past nac imgs kept gvn costs lst sets bst mlo mal mpr lak trc ntr) := ov_isV
  refine r_iload_n X 1 dX8_image_0 rfl ?_
  refine r_iconst X (0 : Int32) dX8_image_1 (by decide) ?_
  refine r_iconst X (1 : Int32) dX8_image_2 (by decide) ?_
  refine cl_X8_72 X (by decide) dX8_image_3 (Nat.le_of_ble_eq_true rfl) (c_Model_in  ) ?_
  refine r_if_ne X 12 dX8_image_6 rfl (fun cu => ?_) (fun cu => ?_)
  · rw [if_neg cu] at hf
    obtain ⟨k0, hk0, rfl⟩ := inC_nat (N := 1) rfl (by decide) cu
    try simp only [nI_clamp (show k0 < 2 ^ 31 by omega)] at hf
    refine r_aload_n X 0 dX8_image_12 rfl ?_
    refine cl_X8_227 X (by decide) dX8_image_13 (Nat.le_of_ble_eq_true rfl) (hv_b 0 _ rfl) (c_Model_isDay hv_b ) ?_
    refine r_if_ne X 22 dX8_image_16 rfl (fun c1 => ?_) (fun c1 => ?_)
    · rw [if_neg c1] at hf
      refine r_aload_n X 0 dX8_image_22 rfl ?_
      refine gf_X8_25 X dX8_image_23 (hv_b 0 _ rfl) rfl ?_
      refine r_iconst X (0 : Int32) dX8_image_26 (by decide) ?_
      refine r_aload_n X 0 dX8_image_27 rfl ?_
      refine gf_X8_37 X dX8_image_28 (hv_b 0 _ rfl) rfl ?_
      refine r_bipush X (41 : Int32) dX8_image_31 (by decide) ?_
      refine r_iload_n X 1 dX8_image_33 rfl ?_
      refine r_imuln X (a := 41) (b := k0) dX8_image_34 ?_
      refine cl_X8_154 X (by decide) dX8_image_35 (Nat.le_of_ble_eq_true rfl) (c_copies_up (a := 0) (c := 41 * k0) (hv_b (6 + 0) _ (modL_W (by omega))) (hv_b 10 _ rfl) (by omega) (by omega) (by omega)) ?_
      refine SW.heq (h2 := (ov h b (modL b lane many items spare stat tape taped fk fp mat mst tok mval W past nac (f_copies (W 0) imgs 0 (41 * k0)) kept gvn costs lst sets bst mlo mal mpr lak trc ntr))) (ov_up 10 (Nat.le_of_ble_eq_true rfl) rfl) ?_
      have hv_b : isV (ov h b (modL b lane many items spare stat tape taped fk fp mat mst tok mval W past nac (f_copies (W 0) imgs 0 (41 * k0)) kept gvn costs lst sets bst mlo mal mpr lak trc ntr)) b (modL b lane many items spare stat tape taped fk fp mat mst tok mval W past nac (f_copies (W 0) imgs 0 (41 * k0)) kept gvn costs lst sets bst mlo mal mpr lak trc ntr) := ov_isV
      refine r_aload_n X 0 dX8_image_38 rfl ?_
      refine gf_X8_40 X dX8_image_39 (hv_b 0 _ rfl) rfl ?_
      refine r_iload_n X 1 dX8_image_42 rfl ?_
      refine r_iconst X (1 : Int32) dX8_image_43 (by decide) ?_
      refine r_zast1 X (k0 := k0) dX8_image_44 (hv_b 11 _ rfl) (by omega) (by decide) ?_
      refine SW.heq (h2 := (ov h b (modL b lane many items spare stat tape taped fk fp mat mst tok mval W past nac (f_copies (W 0) imgs 0 (41 * k0)) (upd kept k0 (1 : Int32)) gvn costs lst sets bst mlo mal mpr lak trc ntr))) (ov_up 11 (Nat.le_of_ble_eq_true rfl) rfl) ?_
      have hv_b : isV (ov h b (modL b lane many items spare stat tape taped fk fp mat mst tok mval W past nac (f_copies (W 0) imgs 0 (41 * k0)) (upd kept k0 (1 : Int32)) gvn costs lst sets bst mlo mal mpr lak trc ntr)) b (modL b lane many items spare stat tape taped fk fp mat mst tok mval W past nac (f_copies (W 0) imgs 0 (41 * k0)) (upd kept k0 (1 : Int32)) gvn costs lst sets bst mlo mal mpr lak trc ntr) := ov_isV
      refine r_iconst X (1 : Int32) dX8_image_45 (by decide) ?_
      try subst hf
      exact r_ireturn X Y dX8_image_46 rfl rfl
    · rw [if_pos c1] at hf
      refine r_ldc X dX8_image_19 kk_X8_223 ?_
      try subst hf
      exact r_ireturn X Y dX8_image_21 rfl rfl
  · rw [if_pos cu] at hf
    refine r_ldc X dX8_image_9 kk_X8_80 ?_
    try subst hf
    exact r_ireturn X Y dX8_image_11 rfl rfl

def f_Model_restore (W : Nat → Nat → Int32) (nac : Nat) (imgs : Nat → Int32) (kept : Nat → Int32) (k : Int32) : Int32 × (Nat → Nat → Int32) × Nat := (if (f_Model_in k (0 : Int32) (1 : Int32)) = (0 : Int32) then ((-1000001 : Int32), W, nac) else (if (kept (k.toNatClampNeg)) = (0 : Int32) then ((-1000002 : Int32), W, nac) else ((1 : Int32), va_up W 0 (f_copies imgs (W 0) (41 * (k.toNatClampNeg)) 0), 0)))
set_option maxRecDepth 20000 in
set_option maxHeartbeats 4000000 in
theorem c_Model_restore {G : mG} {h : mHp} {b : Nat} {lane : Nat → Int32} {many : Nat → Nat} {items : Nat → Int32} {spare : Nat → Int32} {stat : Int32} {tape : Nat → Int32} {taped : Nat} {fk : Int32} {fp : Int32} {mat : Nat} {mst : Nat} {tok : Int32} {mval : Int32} {W : Nat → Nat → Int32} {past : Nat → Int32} {nac : Nat} {imgs : Nat → Int32} {kept : Nat → Int32} {gvn : Nat → Int32} {costs : Nat → Int32} {lst : Nat → Int32} {sets : Nat → Int32} {bst : Int32} {mlo : Int64} {mal : Int32} {mpr : Nat → Int64} {lak : Nat → Int64} {trc : Nat → Int32} {ntr : Nat} {k : Int32}    : Ret G 1 mX8_restore [.ref b, .int k] (ov h b (modL b lane many items spare stat tape taped fk fp mat mst tok mval W past nac imgs kept gvn costs lst sets bst mlo mal mpr lak trc ntr)) (some (.int (f_Model_restore W nac imgs kept k).1)) (ov h b (modL b lane many items spare stat tape taped fk fp mat mst tok mval (f_Model_restore W nac imgs kept k).2.1 past (f_Model_restore W nac imgs kept k).2.2 imgs kept gvn costs lst sets bst mlo mal mpr lak trc ntr)) := by
  generalize hf : f_Model_restore W nac imgs kept k = R
  unfold f_Model_restore at hf
  refine Ret.of [(0, .ref b), (1, .int k)] (by decide) (Nat.le_of_ble_eq_true rfl) rfl ?_
  rintro Z rfl X Y
  have hv_b : isV (ov h b (modL b lane many items spare stat tape taped fk fp mat mst tok mval W past nac imgs kept gvn costs lst sets bst mlo mal mpr lak trc ntr)) b (modL b lane many items spare stat tape taped fk fp mat mst tok mval W past nac imgs kept gvn costs lst sets bst mlo mal mpr lak trc ntr) := ov_isV
  refine r_iload_n X 1 dX8_restore_0 rfl ?_
  refine r_iconst X (0 : Int32) dX8_restore_1 (by decide) ?_
  refine r_iconst X (1 : Int32) dX8_restore_2 (by decide) ?_
  refine cl_X8_72 X (by decide) dX8_restore_3 (Nat.le_of_ble_eq_true rfl) (c_Model_in  ) ?_
  refine r_if_ne X 12 dX8_restore_6 rfl (fun cu => ?_) (fun cu => ?_)
  · rw [if_neg cu] at hf
    obtain ⟨k0, hk0, rfl⟩ := inC_nat (N := 1) rfl (by decide) cu
    try simp only [nI_clamp (show k0 < 2 ^ 31 by omega)] at hf
    refine r_aload_n X 0 dX8_restore_12 rfl ?_
    refine gf_X8_40 X dX8_restore_13 (hv_b 0 _ rfl) rfl ?_
    refine r_iload_n X 1 dX8_restore_16 rfl ?_
    refine r_zaldn X (k0 := k0) dX8_restore_17 (hv_b 11 _ rfl) (by omega) (by decide) ?_
    refine r_if_ne X 24 dX8_restore_18 rfl (fun c1 => ?_) (fun c1 => ?_)
    · rw [if_neg c1] at hf
      refine r_aload_n X 0 dX8_restore_24 rfl ?_
      refine gf_X8_37 X dX8_restore_25 (hv_b 0 _ rfl) rfl ?_
      refine r_bipush X (41 : Int32) dX8_restore_28 (by decide) ?_
      refine r_iload_n X 1 dX8_restore_30 rfl ?_
      refine r_imuln X (a := 41) (b := k0) dX8_restore_31 ?_
      refine r_aload_n X 0 dX8_restore_32 rfl ?_
      refine gf_X8_25 X dX8_restore_33 (hv_b 0 _ rfl) rfl ?_
      refine r_iconst X (0 : Int32) dX8_restore_36 (by decide) ?_
      refine cl_X8_154 X (by decide) dX8_restore_37 (Nat.le_of_ble_eq_true rfl) (c_copies_up (a := 41 * k0) (c := 0) (hv_b 10 _ rfl) (hv_b (6 + 0) _ (modL_W (by omega))) (by omega) (by omega) (by omega)) ?_
      refine SW.heq (h2 := (ov h b (modL b lane many items spare stat tape taped fk fp mat mst tok mval (va_up W 0 (f_copies imgs (W 0) (41 * k0) 0)) past nac imgs kept gvn costs lst sets bst mlo mal mpr lak trc ntr))) (ov_up (6 + 0) (show _ < 19 by omega) (modL_Wset (by omega))) ?_
      have hv_b : isV (ov h b (modL b lane many items spare stat tape taped fk fp mat mst tok mval (va_up W 0 (f_copies imgs (W 0) (41 * k0) 0)) past nac imgs kept gvn costs lst sets bst mlo mal mpr lak trc ntr)) b (modL b lane many items spare stat tape taped fk fp mat mst tok mval (va_up W 0 (f_copies imgs (W 0) (41 * k0) 0)) past nac imgs kept gvn costs lst sets bst mlo mal mpr lak trc ntr) := ov_isV
      refine r_aload_n X 0 dX8_restore_40 rfl ?_
      refine r_iconst X (0 : Int32) dX8_restore_41 (by decide) ?_
      refine pf_X8_158 X dX8_restore_42 (hv_b 0 _ rfl) (Nat.le_of_ble_eq_true rfl) ?_
      refine SW.heq (h2 := (ov h b (modL b lane many items spare stat tape taped fk fp mat mst tok mval (va_up W 0 (f_copies imgs (W 0) (41 * k0) 0)) past 0 imgs kept gvn costs lst sets bst mlo mal mpr lak trc ntr))) (ov_up 0 (Nat.le_of_ble_eq_true rfl) rfl) ?_
      have hv_b : isV (ov h b (modL b lane many items spare stat tape taped fk fp mat mst tok mval (va_up W 0 (f_copies imgs (W 0) (41 * k0) 0)) past 0 imgs kept gvn costs lst sets bst mlo mal mpr lak trc ntr)) b (modL b lane many items spare stat tape taped fk fp mat mst tok mval (va_up W 0 (f_copies imgs (W 0) (41 * k0) 0)) past 0 imgs kept gvn costs lst sets bst mlo mal mpr lak trc ntr) := ov_isV
      refine r_iconst X (1 : Int32) dX8_restore_45 (by decide) ?_
      try subst hf
      exact r_ireturn X Y dX8_restore_46 rfl rfl
    · rw [if_pos c1] at hf
      refine r_ldc X dX8_restore_21 kk_X8_223 ?_
      try subst hf
      exact r_ireturn X Y dX8_restore_23 rfl rfl
  · rw [if_pos cu] at hf
    refine r_ldc X dX8_restore_9 kk_X8_80 ?_
    try subst hf
    exact r_ireturn X Y dX8_restore_11 rfl rfl

def f_Model_nextOf_L12 (f : Nat → Int32) (U : Nat) (x2 : Int32) (x3 : Int32) : Nat → Int32 → Nat → Nat → Nat → Int32 × Nat × Nat × Nat
  | 0, y4, y5, y6, y7 => (y4, y5, y6, y7)
  | n + 1, y4, y5, y6, y7 => (if (nI y7) < (nI U) then f_Model_nextOf_L12 f U x2 x3 n (y4 + ((nI y5) * (f_Model_goes f y7 (y6 % 6) (f_Model_has x2 (nI y7)) x3))) (y5 * 6) (y6 / 6) (y7 + 1) else (y4, y5, y6, y7))
def f_Model_nextOf (f : Nat → Int32) (s : Nat) (on : Int32) (lost : Int32) (U : Nat) : Int32 := ((fun q1 => q1.1) (f_Model_nextOf_L12 f U on lost (U + 1) (0 : Int32) 1 s 0))
set_option maxRecDepth 20000 in
set_option maxHeartbeats 4000000 in
theorem c_Model_nextOf {G : mG} {h : mHp} {w : Nat} {f : Nat → Int32} {s : Nat} {on : Int32} {lost : Int32} {U : Nat} (hv_w : isV h w (ar41 w f))  (h0 : f 0 = nI U) (hU : U ≤ 4) (hs : s < 1296) : Ret G 2 mX8_nextOf [.ref w, .int (nI s), .int on, .int lost] h (some (.int (f_Model_nextOf f s on lost U))) h := by
  generalize hf : f_Model_nextOf f s on lost U = R
  unfold f_Model_nextOf at hf
  refine Ret.of [(0, .ref w), (1, .int (nI s)), (2, .int on), (3, .int lost)] (by decide) (Nat.le_of_ble_eq_true rfl) rfl ?_
  rintro Z rfl X Y
  refine r_iconst X (0 : Int32) dX8_nextOf_0 (by decide) ?_
  refine r_istore [(0, .ref w), (1, .int (nI s)), (2, .int on), (3, .int lost), (4, .int (0 : Int32))] X dX8_nextOf_1 (by decide) rfl ?_
  refine r_iconst X (1 : Int32) dX8_nextOf_3 (by decide) ?_
  refine r_istore [(0, .ref w), (1, .int (nI s)), (2, .int on), (3, .int lost), (4, .int (0 : Int32)), (5, .int (1 : Int32))] X dX8_nextOf_4 (by decide) rfl ?_
  refine r_iload_n X 1 dX8_nextOf_6 rfl ?_
  refine r_istore [(0, .ref w), (1, .int (nI s)), (2, .int on), (3, .int lost), (4, .int (0 : Int32)), (5, .int (1 : Int32)), (6, .int (nI s))] X dX8_nextOf_7 (by decide) rfl ?_
  refine r_iconst X (0 : Int32) dX8_nextOf_9 (by decide) ?_
  refine r_istore [(0, .ref w), (1, .int (nI s)), (2, .int on), (3, .int lost), (4, .int (0 : Int32)), (5, .int (1 : Int32)), (6, .int (nI s)), (7, .int (0 : Int32))] X dX8_nextOf_10 (by decide) rfl ?_
  refine SW.pick [0, 2, 3, 4, 5, 6, 7] [(0, .ref w), (2, .int on), (3, .int lost), (4, .int (0 : Int32)), (5, .int (1 : Int32)), (6, .int (nI s)), (7, .int (0 : Int32))] rfl ?_
  have wl1 : ∀ (n_ : Nat) (y4 : Int32) (y5 : Nat) (y6 : Nat) (y7 : Nat), (y7 ≤ U ∧ y6 < 1296) → (U - y7) < n_ → ((((f_Model_nextOf_L12 f U on lost n_ y4 y5 y6 y7).2.2.2) ≤ U ∧ ((f_Model_nextOf_L12 f U on lost n_ y4 y5 y6 y7).2.2.1) < 1296) → SW Z 66 [(4, .int ((f_Model_nextOf_L12 f U on lost n_ y4 y5 y6 y7).1))] [] h) → SW Z 12 [(0, .ref w), (2, .int on), (3, .int lost), (4, .int y4), (5, .int (nI y5)), (6, .int (nI y6)), (7, .int (nI y7))] [] h := by
    intro n_
    induction n_ with
    | zero => intro y4 y5 y6 y7 _ hm; exact absurd hm (Nat.not_lt_zero _)
    | succ n_ ih =>
      intro y4 y5 y6 y7 hi hm K
      generalize hf : f_Model_nextOf_L12 f U on lost (n_ + 1) y4 y5 y6 y7 = Rl at K
      rw [f_Model_nextOf_L12] at hf
      refine r_iload X 6 dX8_nextOf_12 rfl ?_
      refine r_aload_n X 0 dX8_nextOf_14 rfl ?_
      refine r_iconst X (0 : Int32) dX8_nextOf_15 (by decide) ?_
      refine r_ialdv X (v := nI U) (k0 := 0) dX8_nextOf_16 (hv_w 0 _ rfl) (by omega) (by decide) h0 ?_
      refine r_icmp_ge X 66 dX8_nextOf_17 rfl (fun ct => ?_) (fun ct => ?_)
      · rw [if_neg ct] at hf
        refine SW.pick [3] [(4, .int y4)] rfl ?_
        subst hf
        exact K hi
      · rw [if_pos ct] at hf
        have ht := nI_ltX ct (by omega) (by omega)
        refine r_iload X 3 dX8_nextOf_20 rfl ?_
        refine r_iload X 4 dX8_nextOf_22 rfl ?_
        refine r_aload_n X 0 dX8_nextOf_24 rfl ?_
        refine r_iload X 6 dX8_nextOf_25 rfl ?_
        refine r_iload X 5 dX8_nextOf_27 rfl ?_
        refine r_bipush X (6 : Int32) dX8_nextOf_29 (by decide) ?_
        refine r_iremn X (a := y6) (b := 6) dX8_nextOf_31 (by first | omega | exact Nat.lt_of_le_of_lt (Nat.div_le_self _ _) (by omega)) (by omega) (by omega) ?_
        refine r_iload_n X 1 dX8_nextOf_32 rfl ?_
        refine r_iload X 6 dX8_nextOf_33 rfl ?_
        refine cl_X8_165 X (by decide) dX8_nextOf_35 (Nat.le_of_ble_eq_true rfl) (c_Model_has  ) ?_
        refine r_iload_n X 2 dX8_nextOf_38 rfl ?_
        refine cl_X8_194 X (by decide) dX8_nextOf_39 (Nat.le_of_ble_eq_true rfl) (c_Model_goes (isV1 (hv_w 0 _ rfl)) (by first | assumption | omega) (by first | assumption | omega)) ?_
        refine r_imul X dX8_nextOf_42 ?_
        refine r_iadd X dX8_nextOf_43 ?_
        refine r_istore [(0, .ref w), (2, .int on), (3, .int lost), (4, .int (y4 + ((nI y5) * (f_Model_goes f y7 (y6 % 6) (f_Model_has on (nI y7)) lost)))), (5, .int (nI y5)), (6, .int (nI y6)), (7, .int (nI y7))] X dX8_nextOf_44 (by decide) rfl ?_
        refine r_iload X 4 dX8_nextOf_46 rfl ?_
        refine r_bipush X (6 : Int32) dX8_nextOf_48 (by decide) ?_
        refine r_imuln X (a := y5) (b := 6) dX8_nextOf_50 ?_
        refine r_istore [(0, .ref w), (2, .int on), (3, .int lost), (4, .int (y4 + ((nI y5) * (f_Model_goes f y7 (y6 % 6) (f_Model_has on (nI y7)) lost)))), (5, .int (nI (y5 * 6))), (6, .int (nI y6)), (7, .int (nI y7))] X dX8_nextOf_51 (by decide) rfl ?_
        refine r_iload X 5 dX8_nextOf_53 rfl ?_
        refine r_bipush X (6 : Int32) dX8_nextOf_55 (by decide) ?_
        refine r_idivn X (a := y6) (b := 6) dX8_nextOf_57 (by first | omega | exact Nat.lt_of_le_of_lt (Nat.div_le_self _ _) (by omega)) (by omega) (by omega) ?_
        refine r_istore [(0, .ref w), (2, .int on), (3, .int lost), (4, .int (y4 + ((nI y5) * (f_Model_goes f y7 (y6 % 6) (f_Model_has on (nI y7)) lost)))), (5, .int (nI (y5 * 6))), (6, .int (nI (y6 / 6))), (7, .int (nI y7))] X dX8_nextOf_58 (by decide) rfl ?_
        refine r_iinc [(0, .ref w), (2, .int on), (3, .int lost), (4, .int (y4 + ((nI y5) * (f_Model_goes f y7 (y6 % 6) (f_Model_has on (nI y7)) lost)))), (5, .int (nI (y5 * 6))), (6, .int (nI (y6 / 6))), (7, .int (nI (y7 + 1)))] X (nI (y7 + 1)) 6 dX8_nextOf_60 rfl (nI_succ _).symm (by decide) rfl ?_
        refine r_goto X 12 dX8_nextOf_63 rfl ?_
        exact ih _ _ _ _ ⟨by omega, by omega⟩ (by omega) (by rw [hf]; exact K)
  refine wl1 (U + 1) (0 : Int32) 1 s 0 ⟨by omega, hs⟩ (by omega) (fun hi => ?_)
  obtain ⟨q1, eq1⟩ : ∃ q, q = f_Model_nextOf_L12 f U on lost (U + 1) (0 : Int32) 1 s 0 := ⟨_, rfl⟩
  rw [← eq1]
  rw [← eq1] at hf
  try dsimp only at hf
  rw [← eq1] at hi
  refine r_iload X 0 dX8_nextOf_66 rfl ?_
  try subst hf
  exact r_ireturn X Y dX8_nextOf_68 rfl rfl
