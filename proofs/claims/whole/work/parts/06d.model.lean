theorem cf_inv {U u nx wy six three rest g t : Nat} (hi : u ≤ U ∧ six = 6 ^ u ∧ three = 3 ^ u ∧ nx < 6 ^ u ∧ wy < 3 ^ u ∧ rest < 1296) (hu : u < U) (hg : g ≤ 5) (ht : t ≤ 2 * three) : u + 1 ≤ U ∧ six * 6 = 6 ^ (u + 1) ∧ three * 3 = 3 ^ (u + 1) ∧ nx + six * g < 6 ^ (u + 1) ∧ wy + t < 3 ^ (u + 1) ∧ rest / 6 < 1296 := by
  obtain ⟨h1, h2, h3, h4, h5, h6⟩ := hi
  have h7 : six * g ≤ six * 5 := Nat.mul_le_mul_left _ hg
  rw [Nat.pow_succ, Nat.pow_succ]
  refine ⟨by omega, by rw [h2], by rw [h3], by omega, by omega, by omega⟩
theorem pow6_4 {u : Nat} (h : u ≤ 4) : 6 ^ u ≤ 1296 := Nat.pow_le_pow_right (n := 6) (by decide) h
theorem pow3_4 {u : Nat} (h : u ≤ 4) : 3 ^ u ≤ 81 := Nat.pow_le_pow_right (n := 3) (by decide) h

def f_Model_costFrom_L18 (W : Nat → Nat → Int32) (wi : Nat) (U : Nat) (x4 : Int32) (x5 : Int32) : Nat → Nat → Nat → Nat → Nat → Nat → Nat → (Nat × Nat × Nat × Nat × Nat × Nat) ⊕ (Int32)
  | 0, y6, y7, y8, y9, y10, y11 => .inl (y6, y7, y8, y9, y10, y11)
  | n + 1, y6, y7, y8, y9, y10, y11 => (if (nI y11) < (nI U) then (if (f_Model_goes (W wi) y11 (y10 % 6) (f_Model_has x4 (nI y11)) x5) = (-1000000 : Int32) then .inr (100000000 : Int32) else f_Model_costFrom_L18 W wi U x4 x5 n (y6 + (y8 * ((f_Model_goes (W wi) y11 (y10 % 6) (f_Model_has x4 (nI y11)) x5).toNatClampNeg))) (y7 + (if (f_Model_has x4 (nI y11)) = (0 : Int32) then 0 else (if (nI (y10 % 6)) < (3 : Int32) then 2 * y9 else y9))) (y8 * 6) (y9 * 3) (y10 / 6) (y11 + 1)) else .inl (y6, y7, y8, y9, y10, y11))
def f_Model_costFrom (W : Nat → Nat → Int32) (costs : Nat → Int32) (lst : Nat → Int32) (hr : Nat) (s : Nat) (on : Int32) (lost : Int32) (wi : Nat) (U : Nat) : Int32 := (match f_Model_costFrom_L18 W wi U on lost (U + 1) 0 0 1 1 s 0 with | .inr r => r | .inl (y6, y7, y8, y9, y10, y11) => if (costs ((81 * hr) + y7)) = (100000000 : Int32) then (100000000 : Int32) else if (lst ((1296 * (hr + 1)) + y6)) = (100000000 : Int32) then (100000000 : Int32) else (costs ((81 * hr) + y7)) + (lst ((1296 * (hr + 1)) + y6)))
set_option maxRecDepth 20000 in
set_option maxHeartbeats 4000000 in
theorem c_Model_costFrom {G : mG} {h : mHp} {b : Nat} {lane : Nat → Int32} {many : Nat → Nat} {items : Nat → Int32} {spare : Nat → Int32} {stat : Int32} {tape : Nat → Int32} {taped : Nat} {fk : Int32} {fp : Int32} {mat : Nat} {mst : Nat} {tok : Int32} {mval : Int32} {W : Nat → Nat → Int32} {past : Nat → Int32} {nac : Nat} {imgs : Nat → Int32} {kept : Nat → Int32} {gvn : Nat → Int32} {costs : Nat → Int32} {lst : Nat → Int32} {sets : Nat → Int32} {bst : Int32} {mlo : Int64} {mal : Int32} {mpr : Nat → Int64} {lak : Nat → Int64} {trc : Nat → Int32} {ntr : Nat} {hr : Nat} {s : Nat} {on : Int32} {lost : Int32} {wi : Nat} {U : Nat} (hv_b : isV h b (modL b lane many items spare stat tape taped fk fp mat mst tok mval W past nac imgs kept gvn costs lst sets bst mlo mal mpr lak trc ntr))  (hwi : wi < 3) (h0 : W wi 0 = nI U) (hU : U ≤ 4) (hr6 : hr < 6) (hs : s < 1296) : Ret G 2 mX8_costFrom [.ref b, .ref (b + (6 + wi)), .int (nI hr), .int (nI s), .int on, .int lost] h (some (.int (f_Model_costFrom W costs lst hr s on lost wi U))) h := by
  generalize hf : f_Model_costFrom W costs lst hr s on lost wi U = R
  unfold f_Model_costFrom at hf
  refine Ret.of [(0, .ref b), (1, .ref (b + (6 + wi))), (2, .int (nI hr)), (3, .int (nI s)), (4, .int on), (5, .int lost)] (by decide) (Nat.le_of_ble_eq_true rfl) rfl ?_
  rintro Z rfl X Y
  refine r_iconst X (0 : Int32) dX8_costFrom_0 (by decide) ?_
  refine r_istore [(0, .ref b), (1, .ref (b + (6 + wi))), (2, .int (nI hr)), (3, .int (nI s)), (4, .int on), (5, .int lost), (6, .int (0 : Int32))] X dX8_costFrom_1 (by decide) rfl ?_
  refine r_iconst X (0 : Int32) dX8_costFrom_3 (by decide) ?_
  refine r_istore [(0, .ref b), (1, .ref (b + (6 + wi))), (2, .int (nI hr)), (3, .int (nI s)), (4, .int on), (5, .int lost), (6, .int (0 : Int32)), (7, .int (0 : Int32))] X dX8_costFrom_4 (by decide) rfl ?_
  refine r_iconst X (1 : Int32) dX8_costFrom_6 (by decide) ?_
  refine r_istore [(0, .ref b), (1, .ref (b + (6 + wi))), (2, .int (nI hr)), (3, .int (nI s)), (4, .int on), (5, .int lost), (6, .int (0 : Int32)), (7, .int (0 : Int32)), (8, .int (1 : Int32))] X dX8_costFrom_7 (by decide) rfl ?_
  refine r_iconst X (1 : Int32) dX8_costFrom_9 (by decide) ?_
  refine r_istore [(0, .ref b), (1, .ref (b + (6 + wi))), (2, .int (nI hr)), (3, .int (nI s)), (4, .int on), (5, .int lost), (6, .int (0 : Int32)), (7, .int (0 : Int32)), (8, .int (1 : Int32)), (9, .int (1 : Int32))] X dX8_costFrom_10 (by decide) rfl ?_
  refine r_iload_n X 3 dX8_costFrom_12 rfl ?_
  refine r_istore [(0, .ref b), (1, .ref (b + (6 + wi))), (2, .int (nI hr)), (3, .int (nI s)), (4, .int on), (5, .int lost), (6, .int (0 : Int32)), (7, .int (0 : Int32)), (8, .int (1 : Int32)), (9, .int (1 : Int32)), (10, .int (nI s))] X dX8_costFrom_13 (by decide) rfl ?_
  refine r_iconst X (0 : Int32) dX8_costFrom_15 (by decide) ?_
  refine r_istore [(0, .ref b), (1, .ref (b + (6 + wi))), (2, .int (nI hr)), (3, .int (nI s)), (4, .int on), (5, .int lost), (6, .int (0 : Int32)), (7, .int (0 : Int32)), (8, .int (1 : Int32)), (9, .int (1 : Int32)), (10, .int (nI s)), (11, .int (0 : Int32))] X dX8_costFrom_16 (by decide) rfl ?_
  refine SW.pick [0, 1, 2, 4, 5, 6, 7, 8, 9, 10, 11] [(0, .ref b), (1, .ref (b + (6 + wi))), (2, .int (nI hr)), (4, .int on), (5, .int lost), (6, .int (0 : Int32)), (7, .int (0 : Int32)), (8, .int (1 : Int32)), (9, .int (1 : Int32)), (10, .int (nI s)), (11, .int (0 : Int32))] rfl ?_
  have wl3 : ∀ (n_ : Nat) (y6 : Nat) (y7 : Nat) (y8 : Nat) (y9 : Nat) (y10 : Nat) (y11 : Nat), (y11 ≤ U ∧ y8 = 6 ^ y11 ∧ y9 = 3 ^ y11 ∧ y6 < 6 ^ y11 ∧ y7 < 3 ^ y11 ∧ y10 < 1296) → (U - y11) < n_ → ∀ Rl, f_Model_costFrom_L18 W wi U on lost n_ y6 y7 y8 y9 y10 y11 = Rl → (∀ (y6 : Nat) (y7 : Nat) (y8 : Nat) (y9 : Nat) (y10 : Nat) (y11 : Nat), Rl = .inl (y6, y7, y8, y9, y10, y11) → (y11 ≤ U ∧ y8 = 6 ^ y11 ∧ y9 = 3 ^ y11 ∧ y6 < 6 ^ y11 ∧ y7 < 3 ^ y11 ∧ y10 < 1296) → SW Z 131 [(0, .ref b), (2, .int (nI hr)), (6, .int (nI y6)), (7, .int (nI y7))] [] h) → (∀ r, Rl = .inr r → R = r) → SW Z 18 [(0, .ref b), (1, .ref (b + (6 + wi))), (2, .int (nI hr)), (4, .int on), (5, .int lost), (6, .int (nI y6)), (7, .int (nI y7)), (8, .int (nI y8)), (9, .int (nI y9)), (10, .int (nI y10)), (11, .int (nI y11))] [] h := by
    intro n_
    induction n_ with
    | zero => intro y6 y7 y8 y9 y10 y11 _ hm; exact absurd hm (Nat.not_lt_zero _)
    | succ n_ ih =>
      intro y6 y7 y8 y9 y10 y11 hi hm Rl hf K Kr
      rw [f_Model_costFrom_L18] at hf
      refine r_iload X 10 dX8_costFrom_18 rfl ?_
      refine r_aload_n X 1 dX8_costFrom_20 rfl ?_
      refine r_iconst X (0 : Int32) dX8_costFrom_21 (by decide) ?_
      refine r_ialdv X (v := nI U) (k0 := 0) dX8_costFrom_22 (hv_b (6 + wi) _ (modL_W (by omega))) (by omega) (by decide) h0 ?_
      refine r_icmp_ge X 131 dX8_costFrom_23 rfl (fun ct => ?_) (fun ct => ?_)
      · rw [if_neg ct] at hf
        refine SW.pick [0, 2, 5, 6] [(0, .ref b), (2, .int (nI hr)), (6, .int (nI y6)), (7, .int (nI y7))] rfl ?_
        exact K _ _ _ _ _ _ hf.symm hi
      · rw [if_pos ct] at hf
        have ht := nI_ltX ct (by omega) (by omega)
        have hp3 := pow3_4 (u := y11) (by omega)
        have hp6 := pow6_4 (u := y11) (by omega)
        refine r_aload_n X 1 dX8_costFrom_26 rfl ?_
        refine r_iload X 10 dX8_costFrom_27 rfl ?_
        refine r_iload X 9 dX8_costFrom_29 rfl ?_
        refine r_bipush X (6 : Int32) dX8_costFrom_31 (by decide) ?_
        refine r_iremn X (a := y10) (b := 6) dX8_costFrom_33 (by first | omega | exact Nat.lt_of_le_of_lt (Nat.div_le_self _ _) (by omega)) (by omega) (by omega) ?_
        refine r_iload X 3 dX8_costFrom_34 rfl ?_
        refine r_iload X 10 dX8_costFrom_36 rfl ?_
        refine cl_X8_165 X (by decide) dX8_costFrom_38 (Nat.le_of_ble_eq_true rfl) (c_Model_has  ) ?_
        refine r_iload X 4 dX8_costFrom_41 rfl ?_
        refine cl_X8_194 X (by decide) dX8_costFrom_43 (Nat.le_of_ble_eq_true rfl) (c_Model_goes (isV1 (hv_b (6 + wi) _ (modL_W (by omega)))) (by first | assumption | omega) (by first | assumption | omega)) ?_
        refine r_istore [(0, .ref b), (1, .ref (b + (6 + wi))), (2, .int (nI hr)), (4, .int on), (5, .int lost), (6, .int (nI y6)), (7, .int (nI y7)), (8, .int (nI y8)), (9, .int (nI y9)), (10, .int (nI y10)), (11, .int (nI y11)), (12, .int (f_Model_goes (W wi) y11 (y10 % 6) (f_Model_has on (nI y11)) lost))] X dX8_costFrom_46 (by decide) rfl ?_
        refine r_iload X 11 dX8_costFrom_48 rfl ?_
        refine r_ldc X dX8_costFrom_50 kk_X8_66 ?_
        refine r_icmp_ne X 58 dX8_costFrom_52 rfl (fun cn => ?_) (fun cn => ?_)
        · rw [if_neg cn] at hf
          obtain ⟨g, hg, eg⟩ := goes_nat (by omega) cn
          rw [eg]
          try rw [eg] at hf
          try simp only [nI_clamp (show g < 2 ^ 31 by omega)] at hf
          refine r_iload X 5 dX8_costFrom_58 rfl ?_
          refine r_iload X 7 dX8_costFrom_60 rfl ?_
          refine r_iload X 11 dX8_costFrom_62 rfl ?_
          refine r_imuln X (a := y8) (b := g) dX8_costFrom_64 ?_
          refine r_iaddn X (a := y6) (b := y8 * g) dX8_costFrom_65 ?_
          refine r_istore [(0, .ref b), (1, .ref (b + (6 + wi))), (2, .int (nI hr)), (4, .int on), (5, .int lost), (6, .int (nI (y6 + (y8 * g)))), (7, .int (nI y7)), (8, .int (nI y8)), (9, .int (nI y9)), (10, .int (nI y10)), (11, .int (nI y11)), (12, .int (nI g))] X dX8_costFrom_66 (by decide) rfl ?_
          refine r_iload X 6 dX8_costFrom_68 rfl ?_
          refine r_iload X 3 dX8_costFrom_70 rfl ?_
          refine r_iload X 10 dX8_costFrom_72 rfl ?_
          refine cl_X8_165 X (by decide) dX8_costFrom_74 (Nat.le_of_ble_eq_true rfl) (c_Model_has  ) ?_
          refine m_join (P := SW Z 102 [(0, .ref b), (1, .ref (b + (6 + wi))), (2, .int (nI hr)), (4, .int on), (5, .int lost), (6, .int (nI (y6 + (y8 * g)))), (8, .int (nI y8)), (9, .int (nI y9)), (10, .int (nI y10)), (11, .int (nI y11))] [.int (nI (if (f_Model_has on (nI y11)) = (0 : Int32) then 0 else (if (nI (y10 % 6)) < (3 : Int32) then 2 * y9 else y9))), .int (nI y7)] h) (fun K => ?_) ?_
          · refine r_if_ne X 84 dX8_costFrom_77 rfl (fun c4 => ?_) (fun c4 => ?_)
            · skip
              refine r_iload X 9 dX8_costFrom_84 rfl ?_
              refine r_bipush X (6 : Int32) dX8_costFrom_86 (by decide) ?_
              refine r_iremn X (a := y10) (b := 6) dX8_costFrom_88 (by first | omega | exact Nat.lt_of_le_of_lt (Nat.div_le_self _ _) (by omega)) (by omega) (by omega) ?_
              refine r_iconst X (3 : Int32) dX8_costFrom_89 (by decide) ?_
              refine m_join (P := SW Z 102 [(0, .ref b), (1, .ref (b + (6 + wi))), (2, .int (nI hr)), (4, .int on), (5, .int lost), (6, .int (nI (y6 + (y8 * g)))), (8, .int (nI y8)), (9, .int (nI y9)), (10, .int (nI y10)), (11, .int (nI y11))] [.int (nI (if (nI (y10 % 6)) < (3 : Int32) then 2 * y9 else y9)), .int (nI y7)] h) (fun K => ?_) ?_
              · refine r_icmp_ge X 100 dX8_costFrom_90 rfl (fun c5 => ?_) (fun c5 => ?_)
                · skip
                  refine r_iload X 8 dX8_costFrom_100 rfl ?_
                  refine SW.pick [0, 1, 2, 3, 4, 5, 7, 8, 9, 10] [(0, .ref b), (1, .ref (b + (6 + wi))), (2, .int (nI hr)), (4, .int on), (5, .int lost), (6, .int (nI (y6 + (y8 * g)))), (8, .int (nI y8)), (9, .int (nI y9)), (10, .int (nI y10)), (11, .int (nI y11))] rfl ?_
                  try simp only [if_neg c5] at K ⊢
                  exact K
                · skip
                  refine r_iconst X (2 : Int32) dX8_costFrom_93 (by decide) ?_
                  refine r_iload X 8 dX8_costFrom_94 rfl ?_
                  refine r_imuln X (a := 2) (b := y9) dX8_costFrom_96 ?_
                  refine r_goto X 102 dX8_costFrom_97 rfl ?_
                  refine SW.pick [0, 1, 2, 3, 4, 5, 7, 8, 9, 10] [(0, .ref b), (1, .ref (b + (6 + wi))), (2, .int (nI hr)), (4, .int on), (5, .int lost), (6, .int (nI (y6 + (y8 * g)))), (8, .int (nI y8)), (9, .int (nI y9)), (10, .int (nI y10)), (11, .int (nI y11))] rfl ?_
                  try simp only [if_pos c5] at K ⊢
                  exact K
              try simp only [if_neg c4] at K ⊢
              exact K
            · skip
              refine r_iconst X (0 : Int32) dX8_costFrom_80 (by decide) ?_
              refine r_goto X 102 dX8_costFrom_81 rfl ?_
              refine SW.pick [0, 1, 2, 3, 4, 5, 7, 8, 9, 10] [(0, .ref b), (1, .ref (b + (6 + wi))), (2, .int (nI hr)), (4, .int on), (5, .int lost), (6, .int (nI (y6 + (y8 * g)))), (8, .int (nI y8)), (9, .int (nI y9)), (10, .int (nI y10)), (11, .int (nI y11))] rfl ?_
              try simp only [if_pos c4] at K ⊢
              exact K
          refine r_iaddn X (a := y7) (b := (if (f_Model_has on (nI y11)) = (0 : Int32) then 0 else (if (nI (y10 % 6)) < (3 : Int32) then 2 * y9 else y9))) dX8_costFrom_102 ?_
          refine r_istore [(0, .ref b), (1, .ref (b + (6 + wi))), (2, .int (nI hr)), (4, .int on), (5, .int lost), (6, .int (nI (y6 + (y8 * g)))), (7, .int (nI (y7 + (if (f_Model_has on (nI y11)) = (0 : Int32) then 0 else (if (nI (y10 % 6)) < (3 : Int32) then 2 * y9 else y9))))), (8, .int (nI y8)), (9, .int (nI y9)), (10, .int (nI y10)), (11, .int (nI y11))] X dX8_costFrom_103 (by decide) rfl ?_
          refine r_iload X 7 dX8_costFrom_105 rfl ?_
          refine r_bipush X (6 : Int32) dX8_costFrom_107 (by decide) ?_
          refine r_imuln X (a := y8) (b := 6) dX8_costFrom_109 ?_
          refine r_istore [(0, .ref b), (1, .ref (b + (6 + wi))), (2, .int (nI hr)), (4, .int on), (5, .int lost), (6, .int (nI (y6 + (y8 * g)))), (7, .int (nI (y7 + (if (f_Model_has on (nI y11)) = (0 : Int32) then 0 else (if (nI (y10 % 6)) < (3 : Int32) then 2 * y9 else y9))))), (8, .int (nI (y8 * 6))), (9, .int (nI y9)), (10, .int (nI y10)), (11, .int (nI y11))] X dX8_costFrom_110 (by decide) rfl ?_
          refine r_iload X 8 dX8_costFrom_112 rfl ?_
          refine r_iconst X (3 : Int32) dX8_costFrom_114 (by decide) ?_
          refine r_imuln X (a := y9) (b := 3) dX8_costFrom_115 ?_
          refine r_istore [(0, .ref b), (1, .ref (b + (6 + wi))), (2, .int (nI hr)), (4, .int on), (5, .int lost), (6, .int (nI (y6 + (y8 * g)))), (7, .int (nI (y7 + (if (f_Model_has on (nI y11)) = (0 : Int32) then 0 else (if (nI (y10 % 6)) < (3 : Int32) then 2 * y9 else y9))))), (8, .int (nI (y8 * 6))), (9, .int (nI (y9 * 3))), (10, .int (nI y10)), (11, .int (nI y11))] X dX8_costFrom_116 (by decide) rfl ?_
          refine r_iload X 9 dX8_costFrom_118 rfl ?_
          refine r_bipush X (6 : Int32) dX8_costFrom_120 (by decide) ?_
          refine r_idivn X (a := y10) (b := 6) dX8_costFrom_122 (by first | omega | exact Nat.lt_of_le_of_lt (Nat.div_le_self _ _) (by omega)) (by omega) (by omega) ?_
          refine r_istore [(0, .ref b), (1, .ref (b + (6 + wi))), (2, .int (nI hr)), (4, .int on), (5, .int lost), (6, .int (nI (y6 + (y8 * g)))), (7, .int (nI (y7 + (if (f_Model_has on (nI y11)) = (0 : Int32) then 0 else (if (nI (y10 % 6)) < (3 : Int32) then 2 * y9 else y9))))), (8, .int (nI (y8 * 6))), (9, .int (nI (y9 * 3))), (10, .int (nI (y10 / 6))), (11, .int (nI y11))] X dX8_costFrom_123 (by decide) rfl ?_
          refine r_iinc [(0, .ref b), (1, .ref (b + (6 + wi))), (2, .int (nI hr)), (4, .int on), (5, .int lost), (6, .int (nI (y6 + (y8 * g)))), (7, .int (nI (y7 + (if (f_Model_has on (nI y11)) = (0 : Int32) then 0 else (if (nI (y10 % 6)) < (3 : Int32) then 2 * y9 else y9))))), (8, .int (nI (y8 * 6))), (9, .int (nI (y9 * 3))), (10, .int (nI (y10 / 6))), (11, .int (nI (y11 + 1)))] X (nI (y11 + 1)) 10 dX8_costFrom_125 rfl (nI_succ _).symm (by decide) rfl ?_
          refine r_goto X 18 dX8_costFrom_128 rfl ?_
          exact ih _ _ _ _ _ _ (cf_inv hi ht hg (by (repeat' split) <;> omega)) (by omega) Rl hf K Kr
        · rw [if_pos cn] at hf
          refine r_ldc X dX8_costFrom_55 kk_X8_193 ?_
          have hR := Kr _ hf.symm
          subst hR
          exact r_ireturn X Y dX8_costFrom_57 rfl rfl
  refine wl3 (U + 1) 0 0 1 1 s 0 ⟨by omega, rfl, rfl, by decide, by decide, hs⟩ (by omega) _ rfl (fun y6 y7 y8 y9 y10 y11 hl hi => ?_) (fun r hl => ?_)
  rotate_left
  · rw [hl] at hf; exact hf.symm
  rw [hl] at hf
  try dsimp only at hf
  have hp3 := pow3_4 (u := y11) (by omega); have hp6 := pow6_4 (u := y11) (by omega)
  refine r_aload_n X 0 dX8_costFrom_131 rfl ?_
  refine gf_X8_47 X dX8_costFrom_132 (hv_b 0 _ rfl) rfl ?_
  refine r_bipush X (81 : Int32) dX8_costFrom_135 (by decide) ?_
  refine r_iload_n X 1 dX8_costFrom_137 rfl ?_
  refine r_imuln X (a := 81) (b := hr) dX8_costFrom_138 ?_
  refine r_iload X 3 dX8_costFrom_139 rfl ?_
  refine r_iaddn X (a := 81 * hr) (b := y7) dX8_costFrom_141 ?_
  refine r_ialdn X (k0 := (81 * hr) + y7) dX8_costFrom_142 (hv_b 13 _ rfl) (by omega) (by decide) ?_
  refine r_istore [(0, .ref b), (2, .int (nI hr)), (6, .int (nI y6)), (7, .int (nI y7)), (11, .int (costs ((81 * hr) + y7)))] X dX8_costFrom_143 (by decide) rfl ?_
  refine r_iload X 4 dX8_costFrom_145 rfl ?_
  refine r_ldc X dX8_costFrom_147 kk_X8_193 ?_
  refine m_join (P := SW Z 195 [] [.int (if (costs ((81 * hr) + y7)) = (100000000 : Int32) then (100000000 : Int32) else if (lst ((1296 * (hr + 1)) + y6)) = (100000000 : Int32) then (100000000 : Int32) else (costs ((81 * hr) + y7)) + (lst ((1296 * (hr + 1)) + y6)))] h) (fun K => ?_) ?_
  · refine r_icmp_eq X 172 dX8_costFrom_149 rfl (fun c6 => ?_) (fun c6 => ?_)
    · skip
      refine r_ldc X dX8_costFrom_172 kk_X8_193 ?_
      refine r_goto X 195 dX8_costFrom_174 rfl ?_
      refine SW.pick [] [] rfl ?_
      try simp only [if_pos c6] at K ⊢
      exact K
    · skip
      refine r_aload_n X 0 dX8_costFrom_152 rfl ?_
      refine gf_X8_50 X dX8_costFrom_153 (hv_b 0 _ rfl) rfl ?_
      refine r_sipush X (1296 : Int32) dX8_costFrom_156 (by decide) ?_
      refine r_iload_n X 1 dX8_costFrom_159 rfl ?_
      refine r_iconst X (1 : Int32) dX8_costFrom_160 (by decide) ?_
      refine r_iaddn X (a := hr) (b := 1) dX8_costFrom_161 ?_
      refine r_imuln X (a := 1296) (b := hr + 1) dX8_costFrom_162 ?_
      refine r_iload X 2 dX8_costFrom_163 rfl ?_
      refine r_iaddn X (a := 1296 * (hr + 1)) (b := y6) dX8_costFrom_165 ?_
      refine r_ialdn X (k0 := (1296 * (hr + 1)) + y6) dX8_costFrom_166 (hv_b 14 _ rfl) (by omega) (by decide) ?_
      refine r_ldc X dX8_costFrom_167 kk_X8_193 ?_
      refine m_join (P := SW Z 195 [] [.int (if (lst ((1296 * (hr + 1)) + y6)) = (100000000 : Int32) then (100000000 : Int32) else (costs ((81 * hr) + y7)) + (lst ((1296 * (hr + 1)) + y6)))] h) (fun K => ?_) ?_
      · refine r_icmp_ne X 177 dX8_costFrom_169 rfl (fun c7 => ?_) (fun c7 => ?_)
        · skip
          refine r_iload X 4 dX8_costFrom_177 rfl ?_
          refine r_aload_n X 0 dX8_costFrom_179 rfl ?_
          refine gf_X8_50 X dX8_costFrom_180 (hv_b 0 _ rfl) rfl ?_
          refine r_sipush X (1296 : Int32) dX8_costFrom_183 (by decide) ?_
          refine r_iload_n X 1 dX8_costFrom_186 rfl ?_
          refine r_iconst X (1 : Int32) dX8_costFrom_187 (by decide) ?_
          refine r_iaddn X (a := hr) (b := 1) dX8_costFrom_188 ?_
          refine r_imuln X (a := 1296) (b := hr + 1) dX8_costFrom_189 ?_
          refine r_iload X 2 dX8_costFrom_190 rfl ?_
          refine r_iaddn X (a := 1296 * (hr + 1)) (b := y6) dX8_costFrom_192 ?_
          refine r_ialdn X (k0 := (1296 * (hr + 1)) + y6) dX8_costFrom_193 (hv_b 14 _ rfl) (by omega) (by decide) ?_
          refine r_iadd X dX8_costFrom_194 ?_
          refine SW.pick [] [] rfl ?_
          try simp only [if_neg c7] at K ⊢
          exact K
        · skip
          refine r_ldc X dX8_costFrom_172 kk_X8_193 ?_
          refine r_goto X 195 dX8_costFrom_174 rfl ?_
          refine SW.pick [] [] rfl ?_
          try simp only [if_pos c7] at K ⊢
          exact K
      try simp only [if_neg c6] at K ⊢
      exact K
  try subst hf
  exact r_ireturn X Y dX8_costFrom_195 rfl rfl
