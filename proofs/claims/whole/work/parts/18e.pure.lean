theorem ov_app {h : mHp} {d a : Nat} {L K : List mC} {c : mC} (hK : L ++ [c] = K) (ha : a = d + L.length) : va_up (ov h d L) a (some c) = ov h d K := by
  subst hK ha
  funext b
  by_cases e : b = d + L.length
  · rw [e, va_up, if_pos rfl]
    show some c = if d ≤ d + L.length ∧ d + L.length < d + (L ++ [c]).length then (L ++ [c])[d + L.length - d]? else h (d + L.length)
    rw [if_pos ⟨Nat.le_add_right _ _, by rw [List.length_append]; exact Nat.add_lt_add_left (Nat.lt_succ_self _) _⟩, Nat.add_sub_cancel_left, List.getElem?_append_right (Nat.le_refl _), Nat.sub_self]
    rfl
  · rw [va_up, if_neg e]
    show (if d ≤ b ∧ b < d + L.length then L[b - d]? else h b) = if d ≤ b ∧ b < d + (L ++ [c]).length then (L ++ [c])[b - d]? else h b
    have hl : (L ++ [c]).length = L.length + 1 := by rw [List.length_append]; rfl
    by_cases z : d ≤ b ∧ b < d + L.length
    · rw [if_pos z, if_pos ⟨z.1, by omega⟩, List.getElem?_append_left (by omega)]
    · rw [if_neg z, if_neg (fun q => z ⟨q.1, by omega⟩)]
theorem wOi : Cond.instanceMethod Lib.objectInit ∈ gtbl := wG 100 (by decide +kernel) (by decide +kernel)
theorem wOc : Cond.code Lib.objectInit ⟨#[0xb1]⟩ 1 none ∈ gtbl := wG 101 (by decide +kernel) (by decide +kernel)
set_option maxRecDepth 20000 in
set_option maxHeartbeats 4000000 in
theorem c_init2 {G : mG} {h : mHp} {d : Nat} (he : h d = some (.inr (2, [.int 0, .int 0, .int 0, .null, .null, .null, .null, .null, .null, .null, .null, .null, .null, .null, .null, .null]))) : RetC G 1 13 54 (d + 1) mX2_init [.ref d] h none (ov h d (dayL d 0 0 0 (fun _ => 0) (fun _ => 0) (fun _ => 0) (fun _ => 0) (fun _ => 0) (fun _ => 0) (fun _ => 0) (fun _ => 0) (fun _ => 0) (fun _ => 0) (fun _ => 0) (fun _ => 0) (fun _ => 0))) := by
  refine RetC.ofI [(0, .ref d)] (by decide) rfl (Nat.le_of_ble_eq_true rfl) rfl ?_
  rintro Z rfl X A Y J O
  refine SW.heq (h2 := ov h d [.inr (2, [.int 0, .int 0, .int 0, .null, .null, .null, .null, .null, .null, .null, .null, .null, .null, .null, .null, .null])]) (ov_self (fun j c hj => by cases j with | zero => exact (Option.some.inj hj) ▸ he | succ j => cases hj)).symm ?_
  refine r_aload_n X 0 dX2_init_0 rfl ?_
  refine r_obj X (by decide) (wG 153 (by decide +kernel) (by decide +kernel)) wOi wOc (Nat.zero_le _) dX2_init_1 ?_
  refine r_aload_n X 0 dX2_init_4 rfl ?_
  refine r_bipush X (nI 6) dX2_init_5 (by decide) ?_
  refine r_newi X A (by decide) (Or.inl rfl) (by decide) (by decide) dX2_init_7 ?_
  refine SW.heq (h2 := ov h d [.inr (2, [.int 0, .int 0, .int 0, .null, .null, .null, .null, .null, .null, .null, .null, .null, .null, .null, .null, .null]), .inl (0, 6, .inl (fun _ => 0))]) (ov_app rfl rfl) ?_
  have X := mCx.g1 (k := 6) X A (by decide) (by decide)
  have Y := mEndC.g1 (k := 6) Y A
  have J := mIn.g1 (k := 6) J
  have A := mAl.g1 (k := 6) A
  refine r_putF X J (ref := RX2) inG2 tyX2 tyX2_ok nmX2 rfl 3 (by decide) (wG 167 (by decide +kernel) (by decide +kernel)) rfl rfl rfl rfl rfl dX2_init_9 (ov_isV (d := d) 0 _ rfl) (Nat.le_of_ble_eq_true rfl) ?_
  refine SW.heq (h2 := ov h d [.inr (2, [.int 0, .int 0, .int 0, .ref (d + 1), .null, .null, .null, .null, .null, .null, .null, .null, .null, .null, .null, .null]), .inl (0, 6, .inl (fun _ => 0))]) (ov_up 0 (Nat.succ_pos _) rfl) ?_
  refine r_aload_n X 0 dX2_init_12 rfl ?_
  refine r_iconst X (nI 4) dX2_init_13 (by decide) ?_
  refine r_newi X A (by decide) (Or.inr ⟨_, ov_isV (d := d) 1 _ rfl⟩) (by decide) (by decide) dX2_init_14 ?_
  refine SW.heq (h2 := ov h d [.inr (2, [.int 0, .int 0, .int 0, .ref (d + 1), .null, .null, .null, .null, .null, .null, .null, .null, .null, .null, .null, .null]), .inl (0, 6, .inl (fun _ => 0)), .inl (0, 4, .inl (fun _ => 0))]) (ov_app rfl rfl) ?_
  have X := mCx.g1 (k := 4) X A (by decide) (by decide)
  have Y := mEndC.g1 (k := 4) Y A
  have J := mIn.g1 (k := 4) J
  have A := mAl.g1 (k := 4) A
  refine r_putF X J (ref := RX2) inG2 tyX2 tyX2_ok nmX2 rfl 4 (by decide) (wG 172 (by decide +kernel) (by decide +kernel)) rfl rfl rfl rfl rfl dX2_init_16 (ov_isV (d := d) 0 _ rfl) (Nat.le_of_ble_eq_true rfl) ?_
  refine SW.heq (h2 := ov h d [.inr (2, [.int 0, .int 0, .int 0, .ref (d + 1), .ref (d + 2), .null, .null, .null, .null, .null, .null, .null, .null, .null, .null, .null]), .inl (0, 6, .inl (fun _ => 0)), .inl (0, 4, .inl (fun _ => 0))]) (ov_up 0 (Nat.succ_pos _) rfl) ?_
  refine r_aload_n X 0 dX2_init_19 rfl ?_
  refine r_iconst X (nI 4) dX2_init_20 (by decide) ?_
  refine r_newi X A (by decide) (Or.inr ⟨_, ov_isV (d := d) 2 _ rfl⟩) (by decide) (by decide) dX2_init_21 ?_
  refine SW.heq (h2 := ov h d [.inr (2, [.int 0, .int 0, .int 0, .ref (d + 1), .ref (d + 2), .null, .null, .null, .null, .null, .null, .null, .null, .null, .null, .null]), .inl (0, 6, .inl (fun _ => 0)), .inl (0, 4, .inl (fun _ => 0)), .inl (0, 4, .inl (fun _ => 0))]) (ov_app rfl rfl) ?_
  have X := mCx.g1 (k := 4) X A (by decide) (by decide)
  have Y := mEndC.g1 (k := 4) Y A
  have J := mIn.g1 (k := 4) J
  have A := mAl.g1 (k := 4) A
  refine r_putF X J (ref := RX2) inG2 tyX2 tyX2_ok nmX2 rfl 5 (by decide) (wG 177 (by decide +kernel) (by decide +kernel)) rfl rfl rfl rfl rfl dX2_init_23 (ov_isV (d := d) 0 _ rfl) (Nat.le_of_ble_eq_true rfl) ?_
  refine SW.heq (h2 := ov h d [.inr (2, [.int 0, .int 0, .int 0, .ref (d + 1), .ref (d + 2), .ref (d + 3), .null, .null, .null, .null, .null, .null, .null, .null, .null, .null]), .inl (0, 6, .inl (fun _ => 0)), .inl (0, 4, .inl (fun _ => 0)), .inl (0, 4, .inl (fun _ => 0))]) (ov_up 0 (Nat.succ_pos _) rfl) ?_
  refine r_aload_n X 0 dX2_init_26 rfl ?_
  refine r_iconst X (nI 4) dX2_init_27 (by decide) ?_
  refine r_newi X A (by decide) (Or.inr ⟨_, ov_isV (d := d) 3 _ rfl⟩) (by decide) (by decide) dX2_init_28 ?_
  refine SW.heq (h2 := ov h d [.inr (2, [.int 0, .int 0, .int 0, .ref (d + 1), .ref (d + 2), .ref (d + 3), .null, .null, .null, .null, .null, .null, .null, .null, .null, .null]), .inl (0, 6, .inl (fun _ => 0)), .inl (0, 4, .inl (fun _ => 0)), .inl (0, 4, .inl (fun _ => 0)), .inl (0, 4, .inl (fun _ => 0))]) (ov_app rfl rfl) ?_
  have X := mCx.g1 (k := 4) X A (by decide) (by decide)
  have Y := mEndC.g1 (k := 4) Y A
  have J := mIn.g1 (k := 4) J
  have A := mAl.g1 (k := 4) A
  refine r_putF X J (ref := RX2) inG2 tyX2 tyX2_ok nmX2 rfl 6 (by decide) (wG 180 (by decide +kernel) (by decide +kernel)) rfl rfl rfl rfl rfl dX2_init_30 (ov_isV (d := d) 0 _ rfl) (Nat.le_of_ble_eq_true rfl) ?_
  refine SW.heq (h2 := ov h d [.inr (2, [.int 0, .int 0, .int 0, .ref (d + 1), .ref (d + 2), .ref (d + 3), .ref (d + 4), .null, .null, .null, .null, .null, .null, .null, .null, .null]), .inl (0, 6, .inl (fun _ => 0)), .inl (0, 4, .inl (fun _ => 0)), .inl (0, 4, .inl (fun _ => 0)), .inl (0, 4, .inl (fun _ => 0))]) (ov_up 0 (Nat.succ_pos _) rfl) ?_
  refine r_aload_n X 0 dX2_init_33 rfl ?_
  refine r_iconst X (nI 4) dX2_init_34 (by decide) ?_
  refine r_newi X A (by decide) (Or.inr ⟨_, ov_isV (d := d) 4 _ rfl⟩) (by decide) (by decide) dX2_init_35 ?_
  refine SW.heq (h2 := ov h d [.inr (2, [.int 0, .int 0, .int 0, .ref (d + 1), .ref (d + 2), .ref (d + 3), .ref (d + 4), .null, .null, .null, .null, .null, .null, .null, .null, .null]), .inl (0, 6, .inl (fun _ => 0)), .inl (0, 4, .inl (fun _ => 0)), .inl (0, 4, .inl (fun _ => 0)), .inl (0, 4, .inl (fun _ => 0)), .inl (0, 4, .inl (fun _ => 0))]) (ov_app rfl rfl) ?_
  have X := mCx.g1 (k := 4) X A (by decide) (by decide)
  have Y := mEndC.g1 (k := 4) Y A
  have J := mIn.g1 (k := 4) J
  have A := mAl.g1 (k := 4) A
  refine r_putF X J (ref := RX2) inG2 tyX2 tyX2_ok nmX2 rfl 7 (by decide) (wG 185 (by decide +kernel) (by decide +kernel)) rfl rfl rfl rfl rfl dX2_init_37 (ov_isV (d := d) 0 _ rfl) (Nat.le_of_ble_eq_true rfl) ?_
  refine SW.heq (h2 := ov h d [.inr (2, [.int 0, .int 0, .int 0, .ref (d + 1), .ref (d + 2), .ref (d + 3), .ref (d + 4), .ref (d + 5), .null, .null, .null, .null, .null, .null, .null, .null]), .inl (0, 6, .inl (fun _ => 0)), .inl (0, 4, .inl (fun _ => 0)), .inl (0, 4, .inl (fun _ => 0)), .inl (0, 4, .inl (fun _ => 0)), .inl (0, 4, .inl (fun _ => 0))]) (ov_up 0 (Nat.succ_pos _) rfl) ?_
  refine r_aload_n X 0 dX2_init_40 rfl ?_
  refine r_iconst X (nI 4) dX2_init_41 (by decide) ?_
  refine r_newi X A (by decide) (Or.inr ⟨_, ov_isV (d := d) 5 _ rfl⟩) (by decide) (by decide) dX2_init_42 ?_
  refine SW.heq (h2 := ov h d [.inr (2, [.int 0, .int 0, .int 0, .ref (d + 1), .ref (d + 2), .ref (d + 3), .ref (d + 4), .ref (d + 5), .null, .null, .null, .null, .null, .null, .null, .null]), .inl (0, 6, .inl (fun _ => 0)), .inl (0, 4, .inl (fun _ => 0)), .inl (0, 4, .inl (fun _ => 0)), .inl (0, 4, .inl (fun _ => 0)), .inl (0, 4, .inl (fun _ => 0)), .inl (0, 4, .inl (fun _ => 0))]) (ov_app rfl rfl) ?_
  have X := mCx.g1 (k := 4) X A (by decide) (by decide)
  have Y := mEndC.g1 (k := 4) Y A
  have J := mIn.g1 (k := 4) J
  have A := mAl.g1 (k := 4) A
  refine r_putF X J (ref := RX2) inG2 tyX2 tyX2_ok nmX2 rfl 8 (by decide) (wG 189 (by decide +kernel) (by decide +kernel)) rfl rfl rfl rfl rfl dX2_init_44 (ov_isV (d := d) 0 _ rfl) (Nat.le_of_ble_eq_true rfl) ?_
  refine SW.heq (h2 := ov h d [.inr (2, [.int 0, .int 0, .int 0, .ref (d + 1), .ref (d + 2), .ref (d + 3), .ref (d + 4), .ref (d + 5), .ref (d + 6), .null, .null, .null, .null, .null, .null, .null]), .inl (0, 6, .inl (fun _ => 0)), .inl (0, 4, .inl (fun _ => 0)), .inl (0, 4, .inl (fun _ => 0)), .inl (0, 4, .inl (fun _ => 0)), .inl (0, 4, .inl (fun _ => 0)), .inl (0, 4, .inl (fun _ => 0))]) (ov_up 0 (Nat.succ_pos _) rfl) ?_
  refine r_aload_n X 0 dX2_init_47 rfl ?_
  refine r_iconst X (nI 4) dX2_init_48 (by decide) ?_
  refine r_newi X A (by decide) (Or.inr ⟨_, ov_isV (d := d) 6 _ rfl⟩) (by decide) (by decide) dX2_init_49 ?_
  refine SW.heq (h2 := ov h d [.inr (2, [.int 0, .int 0, .int 0, .ref (d + 1), .ref (d + 2), .ref (d + 3), .ref (d + 4), .ref (d + 5), .ref (d + 6), .null, .null, .null, .null, .null, .null, .null]), .inl (0, 6, .inl (fun _ => 0)), .inl (0, 4, .inl (fun _ => 0)), .inl (0, 4, .inl (fun _ => 0)), .inl (0, 4, .inl (fun _ => 0)), .inl (0, 4, .inl (fun _ => 0)), .inl (0, 4, .inl (fun _ => 0)), .inl (0, 4, .inl (fun _ => 0))]) (ov_app rfl rfl) ?_
  have X := mCx.g1 (k := 4) X A (by decide) (by decide)
  have Y := mEndC.g1 (k := 4) Y A
  have J := mIn.g1 (k := 4) J
  have A := mAl.g1 (k := 4) A
  refine r_putF X J (ref := RX2) inG2 tyX2 tyX2_ok nmX2 rfl 9 (by decide) (wG 192 (by decide +kernel) (by decide +kernel)) rfl rfl rfl rfl rfl dX2_init_51 (ov_isV (d := d) 0 _ rfl) (Nat.le_of_ble_eq_true rfl) ?_
  refine SW.heq (h2 := ov h d [.inr (2, [.int 0, .int 0, .int 0, .ref (d + 1), .ref (d + 2), .ref (d + 3), .ref (d + 4), .ref (d + 5), .ref (d + 6), .ref (d + 7), .null, .null, .null, .null, .null, .null]), .inl (0, 6, .inl (fun _ => 0)), .inl (0, 4, .inl (fun _ => 0)), .inl (0, 4, .inl (fun _ => 0)), .inl (0, 4, .inl (fun _ => 0)), .inl (0, 4, .inl (fun _ => 0)), .inl (0, 4, .inl (fun _ => 0)), .inl (0, 4, .inl (fun _ => 0))]) (ov_up 0 (Nat.succ_pos _) rfl) ?_
  refine r_aload_n X 0 dX2_init_54 rfl ?_
  refine r_iconst X (nI 4) dX2_init_55 (by decide) ?_
  refine r_newi X A (by decide) (Or.inr ⟨_, ov_isV (d := d) 7 _ rfl⟩) (by decide) (by decide) dX2_init_56 ?_
  refine SW.heq (h2 := ov h d [.inr (2, [.int 0, .int 0, .int 0, .ref (d + 1), .ref (d + 2), .ref (d + 3), .ref (d + 4), .ref (d + 5), .ref (d + 6), .ref (d + 7), .null, .null, .null, .null, .null, .null]), .inl (0, 6, .inl (fun _ => 0)), .inl (0, 4, .inl (fun _ => 0)), .inl (0, 4, .inl (fun _ => 0)), .inl (0, 4, .inl (fun _ => 0)), .inl (0, 4, .inl (fun _ => 0)), .inl (0, 4, .inl (fun _ => 0)), .inl (0, 4, .inl (fun _ => 0)), .inl (0, 4, .inl (fun _ => 0))]) (ov_app rfl rfl) ?_
  have X := mCx.g1 (k := 4) X A (by decide) (by decide)
  have Y := mEndC.g1 (k := 4) Y A
  have J := mIn.g1 (k := 4) J
  have A := mAl.g1 (k := 4) A
  refine r_putF X J (ref := RX2) inG2 tyX2 tyX2_ok nmX2 rfl 10 (by decide) (wG 196 (by decide +kernel) (by decide +kernel)) rfl rfl rfl rfl rfl dX2_init_58 (ov_isV (d := d) 0 _ rfl) (Nat.le_of_ble_eq_true rfl) ?_
  refine SW.heq (h2 := ov h d [.inr (2, [.int 0, .int 0, .int 0, .ref (d + 1), .ref (d + 2), .ref (d + 3), .ref (d + 4), .ref (d + 5), .ref (d + 6), .ref (d + 7), .ref (d + 8), .null, .null, .null, .null, .null]), .inl (0, 6, .inl (fun _ => 0)), .inl (0, 4, .inl (fun _ => 0)), .inl (0, 4, .inl (fun _ => 0)), .inl (0, 4, .inl (fun _ => 0)), .inl (0, 4, .inl (fun _ => 0)), .inl (0, 4, .inl (fun _ => 0)), .inl (0, 4, .inl (fun _ => 0)), .inl (0, 4, .inl (fun _ => 0))]) (ov_up 0 (Nat.succ_pos _) rfl) ?_
  refine r_aload_n X 0 dX2_init_61 rfl ?_
  refine r_iconst X (nI 4) dX2_init_62 (by decide) ?_
  refine r_newi X A (by decide) (Or.inr ⟨_, ov_isV (d := d) 8 _ rfl⟩) (by decide) (by decide) dX2_init_63 ?_
  refine SW.heq (h2 := ov h d [.inr (2, [.int 0, .int 0, .int 0, .ref (d + 1), .ref (d + 2), .ref (d + 3), .ref (d + 4), .ref (d + 5), .ref (d + 6), .ref (d + 7), .ref (d + 8), .null, .null, .null, .null, .null]), .inl (0, 6, .inl (fun _ => 0)), .inl (0, 4, .inl (fun _ => 0)), .inl (0, 4, .inl (fun _ => 0)), .inl (0, 4, .inl (fun _ => 0)), .inl (0, 4, .inl (fun _ => 0)), .inl (0, 4, .inl (fun _ => 0)), .inl (0, 4, .inl (fun _ => 0)), .inl (0, 4, .inl (fun _ => 0)), .inl (0, 4, .inl (fun _ => 0))]) (ov_app rfl rfl) ?_
  have X := mCx.g1 (k := 4) X A (by decide) (by decide)
  have Y := mEndC.g1 (k := 4) Y A
  have J := mIn.g1 (k := 4) J
  have A := mAl.g1 (k := 4) A
  refine r_putF X J (ref := RX2) inG2 tyX2 tyX2_ok nmX2 rfl 11 (by decide) (wG 200 (by decide +kernel) (by decide +kernel)) rfl rfl rfl rfl rfl dX2_init_65 (ov_isV (d := d) 0 _ rfl) (Nat.le_of_ble_eq_true rfl) ?_
  refine SW.heq (h2 := ov h d [.inr (2, [.int 0, .int 0, .int 0, .ref (d + 1), .ref (d + 2), .ref (d + 3), .ref (d + 4), .ref (d + 5), .ref (d + 6), .ref (d + 7), .ref (d + 8), .ref (d + 9), .null, .null, .null, .null]), .inl (0, 6, .inl (fun _ => 0)), .inl (0, 4, .inl (fun _ => 0)), .inl (0, 4, .inl (fun _ => 0)), .inl (0, 4, .inl (fun _ => 0)), .inl (0, 4, .inl (fun _ => 0)), .inl (0, 4, .inl (fun _ => 0)), .inl (0, 4, .inl (fun _ => 0)), .inl (0, 4, .inl (fun _ => 0)), .inl (0, 4, .inl (fun _ => 0))]) (ov_up 0 (Nat.succ_pos _) rfl) ?_
  refine r_aload_n X 0 dX2_init_68 rfl ?_
  refine r_iconst X (nI 4) dX2_init_69 (by decide) ?_
  refine r_newi X A (by decide) (Or.inr ⟨_, ov_isV (d := d) 9 _ rfl⟩) (by decide) (by decide) dX2_init_70 ?_
  refine SW.heq (h2 := ov h d [.inr (2, [.int 0, .int 0, .int 0, .ref (d + 1), .ref (d + 2), .ref (d + 3), .ref (d + 4), .ref (d + 5), .ref (d + 6), .ref (d + 7), .ref (d + 8), .ref (d + 9), .null, .null, .null, .null]), .inl (0, 6, .inl (fun _ => 0)), .inl (0, 4, .inl (fun _ => 0)), .inl (0, 4, .inl (fun _ => 0)), .inl (0, 4, .inl (fun _ => 0)), .inl (0, 4, .inl (fun _ => 0)), .inl (0, 4, .inl (fun _ => 0)), .inl (0, 4, .inl (fun _ => 0)), .inl (0, 4, .inl (fun _ => 0)), .inl (0, 4, .inl (fun _ => 0)), .inl (0, 4, .inl (fun _ => 0))]) (ov_app rfl rfl) ?_
  have X := mCx.g1 (k := 4) X A (by decide) (by decide)
  have Y := mEndC.g1 (k := 4) Y A
  have J := mIn.g1 (k := 4) J
  have A := mAl.g1 (k := 4) A
  refine r_putF X J (ref := RX2) inG2 tyX2 tyX2_ok nmX2 rfl 12 (by decide) (wG 204 (by decide +kernel) (by decide +kernel)) rfl rfl rfl rfl rfl dX2_init_72 (ov_isV (d := d) 0 _ rfl) (Nat.le_of_ble_eq_true rfl) ?_
  refine SW.heq (h2 := ov h d [.inr (2, [.int 0, .int 0, .int 0, .ref (d + 1), .ref (d + 2), .ref (d + 3), .ref (d + 4), .ref (d + 5), .ref (d + 6), .ref (d + 7), .ref (d + 8), .ref (d + 9), .ref (d + 10), .null, .null, .null]), .inl (0, 6, .inl (fun _ => 0)), .inl (0, 4, .inl (fun _ => 0)), .inl (0, 4, .inl (fun _ => 0)), .inl (0, 4, .inl (fun _ => 0)), .inl (0, 4, .inl (fun _ => 0)), .inl (0, 4, .inl (fun _ => 0)), .inl (0, 4, .inl (fun _ => 0)), .inl (0, 4, .inl (fun _ => 0)), .inl (0, 4, .inl (fun _ => 0)), .inl (0, 4, .inl (fun _ => 0))]) (ov_up 0 (Nat.succ_pos _) rfl) ?_
  refine r_aload_n X 0 dX2_init_75 rfl ?_
  refine r_iconst X (nI 4) dX2_init_76 (by decide) ?_
  refine r_newi X A (by decide) (Or.inr ⟨_, ov_isV (d := d) 10 _ rfl⟩) (by decide) (by decide) dX2_init_77 ?_
  refine SW.heq (h2 := ov h d [.inr (2, [.int 0, .int 0, .int 0, .ref (d + 1), .ref (d + 2), .ref (d + 3), .ref (d + 4), .ref (d + 5), .ref (d + 6), .ref (d + 7), .ref (d + 8), .ref (d + 9), .ref (d + 10), .null, .null, .null]), .inl (0, 6, .inl (fun _ => 0)), .inl (0, 4, .inl (fun _ => 0)), .inl (0, 4, .inl (fun _ => 0)), .inl (0, 4, .inl (fun _ => 0)), .inl (0, 4, .inl (fun _ => 0)), .inl (0, 4, .inl (fun _ => 0)), .inl (0, 4, .inl (fun _ => 0)), .inl (0, 4, .inl (fun _ => 0)), .inl (0, 4, .inl (fun _ => 0)), .inl (0, 4, .inl (fun _ => 0)), .inl (0, 4, .inl (fun _ => 0))]) (ov_app rfl rfl) ?_
  have X := mCx.g1 (k := 4) X A (by decide) (by decide)
  have Y := mEndC.g1 (k := 4) Y A
  have J := mIn.g1 (k := 4) J
  have A := mAl.g1 (k := 4) A
  refine r_putF X J (ref := RX2) inG2 tyX2 tyX2_ok nmX2 rfl 13 (by decide) (wG 205 (by decide +kernel) (by decide +kernel)) rfl rfl rfl rfl rfl dX2_init_79 (ov_isV (d := d) 0 _ rfl) (Nat.le_of_ble_eq_true rfl) ?_
  refine SW.heq (h2 := ov h d [.inr (2, [.int 0, .int 0, .int 0, .ref (d + 1), .ref (d + 2), .ref (d + 3), .ref (d + 4), .ref (d + 5), .ref (d + 6), .ref (d + 7), .ref (d + 8), .ref (d + 9), .ref (d + 10), .ref (d + 11), .null, .null]), .inl (0, 6, .inl (fun _ => 0)), .inl (0, 4, .inl (fun _ => 0)), .inl (0, 4, .inl (fun _ => 0)), .inl (0, 4, .inl (fun _ => 0)), .inl (0, 4, .inl (fun _ => 0)), .inl (0, 4, .inl (fun _ => 0)), .inl (0, 4, .inl (fun _ => 0)), .inl (0, 4, .inl (fun _ => 0)), .inl (0, 4, .inl (fun _ => 0)), .inl (0, 4, .inl (fun _ => 0)), .inl (0, 4, .inl (fun _ => 0))]) (ov_up 0 (Nat.succ_pos _) rfl) ?_
  refine r_aload_n X 0 dX2_init_82 rfl ?_
  refine r_iconst X (nI 4) dX2_init_83 (by decide) ?_
  refine r_newi X A (by decide) (Or.inr ⟨_, ov_isV (d := d) 11 _ rfl⟩) (by decide) (by decide) dX2_init_84 ?_
  refine SW.heq (h2 := ov h d [.inr (2, [.int 0, .int 0, .int 0, .ref (d + 1), .ref (d + 2), .ref (d + 3), .ref (d + 4), .ref (d + 5), .ref (d + 6), .ref (d + 7), .ref (d + 8), .ref (d + 9), .ref (d + 10), .ref (d + 11), .null, .null]), .inl (0, 6, .inl (fun _ => 0)), .inl (0, 4, .inl (fun _ => 0)), .inl (0, 4, .inl (fun _ => 0)), .inl (0, 4, .inl (fun _ => 0)), .inl (0, 4, .inl (fun _ => 0)), .inl (0, 4, .inl (fun _ => 0)), .inl (0, 4, .inl (fun _ => 0)), .inl (0, 4, .inl (fun _ => 0)), .inl (0, 4, .inl (fun _ => 0)), .inl (0, 4, .inl (fun _ => 0)), .inl (0, 4, .inl (fun _ => 0)), .inl (0, 4, .inl (fun _ => 0))]) (ov_app rfl rfl) ?_
  have X := mCx.g1 (k := 4) X A (by decide) (by decide)
  have Y := mEndC.g1 (k := 4) Y A
  have J := mIn.g1 (k := 4) J
  have A := mAl.g1 (k := 4) A
  refine r_putF X J (ref := RX2) inG2 tyX2 tyX2_ok nmX2 rfl 14 (by decide) (wG 207 (by decide +kernel) (by decide +kernel)) rfl rfl rfl rfl rfl dX2_init_86 (ov_isV (d := d) 0 _ rfl) (Nat.le_of_ble_eq_true rfl) ?_
  refine SW.heq (h2 := ov h d [.inr (2, [.int 0, .int 0, .int 0, .ref (d + 1), .ref (d + 2), .ref (d + 3), .ref (d + 4), .ref (d + 5), .ref (d + 6), .ref (d + 7), .ref (d + 8), .ref (d + 9), .ref (d + 10), .ref (d + 11), .ref (d + 12), .null]), .inl (0, 6, .inl (fun _ => 0)), .inl (0, 4, .inl (fun _ => 0)), .inl (0, 4, .inl (fun _ => 0)), .inl (0, 4, .inl (fun _ => 0)), .inl (0, 4, .inl (fun _ => 0)), .inl (0, 4, .inl (fun _ => 0)), .inl (0, 4, .inl (fun _ => 0)), .inl (0, 4, .inl (fun _ => 0)), .inl (0, 4, .inl (fun _ => 0)), .inl (0, 4, .inl (fun _ => 0)), .inl (0, 4, .inl (fun _ => 0)), .inl (0, 4, .inl (fun _ => 0))]) (ov_up 0 (Nat.succ_pos _) rfl) ?_
  refine r_aload_n X 0 dX2_init_89 rfl ?_
  refine r_iconst X (nI 4) dX2_init_90 (by decide) ?_
  refine r_newi X A (by decide) (Or.inr ⟨_, ov_isV (d := d) 12 _ rfl⟩) (by decide) (by decide) dX2_init_91 ?_
  refine SW.heq (h2 := ov h d [.inr (2, [.int 0, .int 0, .int 0, .ref (d + 1), .ref (d + 2), .ref (d + 3), .ref (d + 4), .ref (d + 5), .ref (d + 6), .ref (d + 7), .ref (d + 8), .ref (d + 9), .ref (d + 10), .ref (d + 11), .ref (d + 12), .null]), .inl (0, 6, .inl (fun _ => 0)), .inl (0, 4, .inl (fun _ => 0)), .inl (0, 4, .inl (fun _ => 0)), .inl (0, 4, .inl (fun _ => 0)), .inl (0, 4, .inl (fun _ => 0)), .inl (0, 4, .inl (fun _ => 0)), .inl (0, 4, .inl (fun _ => 0)), .inl (0, 4, .inl (fun _ => 0)), .inl (0, 4, .inl (fun _ => 0)), .inl (0, 4, .inl (fun _ => 0)), .inl (0, 4, .inl (fun _ => 0)), .inl (0, 4, .inl (fun _ => 0)), .inl (0, 4, .inl (fun _ => 0))]) (ov_app rfl rfl) ?_
  have X := mCx.g1 (k := 4) X A (by decide) (by decide)
  have Y := mEndC.g1 (k := 4) Y A
  have J := mIn.g1 (k := 4) J
  have A := mAl.g1 (k := 4) A
  refine r_putF X J (ref := RX2) inG2 tyX2 tyX2_ok nmX2 rfl 15 (by decide) (wG 209 (by decide +kernel) (by decide +kernel)) rfl rfl rfl rfl rfl dX2_init_93 (ov_isV (d := d) 0 _ rfl) (Nat.le_of_ble_eq_true rfl) ?_
  refine SW.heq (h2 := ov h d [.inr (2, [.int 0, .int 0, .int 0, .ref (d + 1), .ref (d + 2), .ref (d + 3), .ref (d + 4), .ref (d + 5), .ref (d + 6), .ref (d + 7), .ref (d + 8), .ref (d + 9), .ref (d + 10), .ref (d + 11), .ref (d + 12), .ref (d + 13)]), .inl (0, 6, .inl (fun _ => 0)), .inl (0, 4, .inl (fun _ => 0)), .inl (0, 4, .inl (fun _ => 0)), .inl (0, 4, .inl (fun _ => 0)), .inl (0, 4, .inl (fun _ => 0)), .inl (0, 4, .inl (fun _ => 0)), .inl (0, 4, .inl (fun _ => 0)), .inl (0, 4, .inl (fun _ => 0)), .inl (0, 4, .inl (fun _ => 0)), .inl (0, 4, .inl (fun _ => 0)), .inl (0, 4, .inl (fun _ => 0)), .inl (0, 4, .inl (fun _ => 0)), .inl (0, 4, .inl (fun _ => 0))]) (ov_up 0 (Nat.succ_pos _) rfl) ?_
  exact r_return X (mEndC.fin Y A) dX2_init_96 rfl rfl
set_option maxRecDepth 20000 in
set_option maxHeartbeats 4000000 in
theorem c_init1 {G : mG} {h : mHp} {a : Nat} (he : h a = some (.inr (1, [.null, .int 0, .int 0, .int 0, .int 0, .int 0]))) : RetC G 1 1 16 (a + 1) mX1_init [.ref a] h none (ov h a (askL a (fun _ => 0) 0 0 0 0 0)) := by
  refine RetC.ofI [(0, .ref a)] (by decide) rfl (Nat.le_of_ble_eq_true rfl) rfl ?_
  rintro Z rfl X A Y J O
  refine SW.heq (h2 := ov h a [.inr (1, [.null, .int 0, .int 0, .int 0, .int 0, .int 0])]) (ov_self (fun j c hj => by cases j with | zero => exact (Option.some.inj hj) ▸ he | succ j => cases hj)).symm ?_
  refine r_aload_n X 0 dX1_init_0 rfl ?_
  refine r_obj X (by decide) (wG 348 (by decide +kernel) (by decide +kernel)) wOi wOc (Nat.zero_le _) dX1_init_1 ?_
  refine r_aload_n X 0 dX1_init_4 rfl ?_
  refine r_bipush X (nI 16) dX1_init_5 (by decide) ?_
  refine r_newi X A (by decide) (Or.inl rfl) (by decide) (by decide) dX1_init_7 ?_
  refine SW.heq (h2 := ov h a [.inr (1, [.null, .int 0, .int 0, .int 0, .int 0, .int 0]), .inl (0, 16, .inl (fun _ => 0))]) (ov_app rfl rfl) ?_
  have X := mCx.g1 (k := 16) X A (by decide) (by decide)
  have Y := mEndC.g1 (k := 16) Y A
  have J := mIn.g1 (k := 16) J
  have A := mAl.g1 (k := 16) A
  refine r_putF X J (ref := RX1) inG1 tyX1 tyX1_ok nmX1 rfl 0 (by decide) (wG 349 (by decide +kernel) (by decide +kernel)) rfl rfl rfl rfl rfl dX1_init_9 (ov_isV (d := a) 0 _ rfl) (Nat.le_of_ble_eq_true rfl) ?_
  refine SW.heq (h2 := ov h a [.inr (1, [.ref (a + 1), .int 0, .int 0, .int 0, .int 0, .int 0]), .inl (0, 16, .inl (fun _ => 0))]) (ov_up 0 (Nat.succ_pos _) rfl) ?_
  exact r_return X (mEndC.fin Y A) dX1_init_12 rfl rfl
set_option maxRecDepth 20000 in
set_option maxHeartbeats 4000000 in
theorem c_init6 {G : mG} {h : mHp} {t : Nat} (he : h t = some (.inr (6, [.null, .int 0, .int 0, .int 0]))) : RetC G 1 1 120 (t + 1) mX6_init [.ref t] h none (ov h t (tapL t (fun _ => 0) 0 0 0)) := by
  refine RetC.ofI [(0, .ref t)] (by decide) rfl (Nat.le_of_ble_eq_true rfl) rfl ?_
  rintro Z rfl X A Y J O
  refine SW.heq (h2 := ov h t [.inr (6, [.null, .int 0, .int 0, .int 0])]) (ov_self (fun j c hj => by cases j with | zero => exact (Option.some.inj hj) ▸ he | succ j => cases hj)).symm ?_
  refine r_aload_n X 0 dX6_init_0 rfl ?_
  refine r_obj X (by decide) (wG 131 (by decide +kernel) (by decide +kernel)) wOi wOc (Nat.zero_le _) dX6_init_1 ?_
  refine r_aload_n X 0 dX6_init_4 rfl ?_
  refine r_bipush X (nI 120) dX6_init_5 (by decide) ?_
  refine r_newi X A (by decide) (Or.inl rfl) (by decide) (by decide) dX6_init_7 ?_
  refine SW.heq (h2 := ov h t [.inr (6, [.null, .int 0, .int 0, .int 0]), .inl (0, 120, .inl (fun _ => 0))]) (ov_app rfl rfl) ?_
  have X := mCx.g1 (k := 120) X A (by decide) (by decide)
  have Y := mEndC.g1 (k := 120) Y A
  have J := mIn.g1 (k := 120) J
  have A := mAl.g1 (k := 120) A
  refine r_putF X J (ref := RX6) inG6 tyX6 tyX6_ok nmX6 rfl 0 (by decide) (wG 132 (by decide +kernel) (by decide +kernel)) rfl rfl rfl rfl rfl dX6_init_9 (ov_isV (d := t) 0 _ rfl) (Nat.le_of_ble_eq_true rfl) ?_
  refine SW.heq (h2 := ov h t [.inr (6, [.ref (t + 1), .int 0, .int 0, .int 0]), .inl (0, 120, .inl (fun _ => 0))]) (ov_up 0 (Nat.succ_pos _) rfl) ?_
  exact r_return X (mEndC.fin Y A) dX6_init_12 rfl rfl
set_option maxRecDepth 20000 in
set_option maxHeartbeats 4000000 in
theorem c_init3 {G : mG} {h : mHp} {lb : Nat} (he : h lb = some (.inr (3, [.null, .null, .null, .long 0, .int 0]))) : RetC G 1 3 76 (lb + 1) mX3_init [.ref lb] h none (ov h lb (lonL lb (fun _ => 0) (fun _ => 0) (fun _ => 0) 0 0)) := by
  refine RetC.ofI [(0, .ref lb)] (by decide) rfl (Nat.le_of_ble_eq_true rfl) rfl ?_
  rintro Z rfl X A Y J O
  refine SW.heq (h2 := ov h lb [.inr (3, [.null, .null, .null, .long 0, .int 0])]) (ov_self (fun j c hj => by cases j with | zero => exact (Option.some.inj hj) ▸ he | succ j => cases hj)).symm ?_
  refine r_aload_n X 0 dX3_init_0 rfl ?_
  refine r_obj X (by decide) (wG 323 (by decide +kernel) (by decide +kernel)) wOi wOc (Nat.zero_le _) dX3_init_1 ?_
  refine r_aload_n X 0 dX3_init_4 rfl ?_
  refine r_bipush X (nI 6) dX3_init_5 (by decide) ?_
  refine r_newj X A (by decide) (Or.inl rfl) (by decide) (by decide) dX3_init_7 ?_
  refine SW.heq (h2 := ov h lb [.inr (3, [.null, .null, .null, .long 0, .int 0]), .inl (1, 6, .inr (.inl (fun _ => 0)))]) (ov_app rfl rfl) ?_
  have X := mCx.g1 (k := 6) X A (by decide) (by decide)
  have Y := mEndC.g1 (k := 6) Y A
  have J := mIn.g1 (k := 6) J
  have A := mAl.g1 (k := 6) A
  refine r_putF X J (ref := RX3) inG3 tyX3 tyX3_ok nmX3 rfl 0 (by decide) (wG 324 (by decide +kernel) (by decide +kernel)) rfl rfl rfl rfl rfl dX3_init_9 (ov_isV (d := lb) 0 _ rfl) (Nat.le_of_ble_eq_true rfl) ?_
  refine SW.heq (h2 := ov h lb [.inr (3, [.ref (lb + 1), .null, .null, .long 0, .int 0]), .inl (1, 6, .inr (.inl (fun _ => 0)))]) (ov_up 0 (Nat.succ_pos _) rfl) ?_
  refine r_aload_n X 0 dX3_init_12 rfl ?_
  refine r_bipush X (nI 6) dX3_init_13 (by decide) ?_
  refine r_newj X A (by decide) (Or.inr ⟨_, ov_isV (d := lb) 1 _ rfl⟩) (by decide) (by decide) dX3_init_15 ?_
  refine SW.heq (h2 := ov h lb [.inr (3, [.ref (lb + 1), .null, .null, .long 0, .int 0]), .inl (1, 6, .inr (.inl (fun _ => 0))), .inl (1, 6, .inr (.inl (fun _ => 0)))]) (ov_app rfl rfl) ?_
  have X := mCx.g1 (k := 6) X A (by decide) (by decide)
  have Y := mEndC.g1 (k := 6) Y A
  have J := mIn.g1 (k := 6) J
  have A := mAl.g1 (k := 6) A
  refine r_putF X J (ref := RX3) inG3 tyX3 tyX3_ok nmX3 rfl 1 (by decide) (wG 326 (by decide +kernel) (by decide +kernel)) rfl rfl rfl rfl rfl dX3_init_17 (ov_isV (d := lb) 0 _ rfl) (Nat.le_of_ble_eq_true rfl) ?_
  refine SW.heq (h2 := ov h lb [.inr (3, [.ref (lb + 1), .ref (lb + 2), .null, .long 0, .int 0]), .inl (1, 6, .inr (.inl (fun _ => 0))), .inl (1, 6, .inr (.inl (fun _ => 0)))]) (ov_up 0 (Nat.succ_pos _) rfl) ?_
  refine r_aload_n X 0 dX3_init_20 rfl ?_
  refine r_bipush X (nI 64) dX3_init_21 (by decide) ?_
  refine r_newj X A (by decide) (Or.inr ⟨_, ov_isV (d := lb) 2 _ rfl⟩) (by decide) (by decide) dX3_init_23 ?_
  refine SW.heq (h2 := ov h lb [.inr (3, [.ref (lb + 1), .ref (lb + 2), .null, .long 0, .int 0]), .inl (1, 6, .inr (.inl (fun _ => 0))), .inl (1, 6, .inr (.inl (fun _ => 0))), .inl (1, 64, .inr (.inl (fun _ => 0)))]) (ov_app rfl rfl) ?_
  have X := mCx.g1 (k := 64) X A (by decide) (by decide)
  have Y := mEndC.g1 (k := 64) Y A
  have J := mIn.g1 (k := 64) J
  have A := mAl.g1 (k := 64) A
  refine r_putF X J (ref := RX3) inG3 tyX3 tyX3_ok nmX3 rfl 2 (by decide) (wG 327 (by decide +kernel) (by decide +kernel)) rfl rfl rfl rfl rfl dX3_init_25 (ov_isV (d := lb) 0 _ rfl) (Nat.le_of_ble_eq_true rfl) ?_
  refine SW.heq (h2 := ov h lb [.inr (3, [.ref (lb + 1), .ref (lb + 2), .ref (lb + 3), .long 0, .int 0]), .inl (1, 6, .inr (.inl (fun _ => 0))), .inl (1, 6, .inr (.inl (fun _ => 0))), .inl (1, 64, .inr (.inl (fun _ => 0)))]) (ov_up 0 (Nat.succ_pos _) rfl) ?_
  exact r_return X (mEndC.fin Y A) dX3_init_28 rfl rfl
