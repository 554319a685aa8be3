def lnF : Nat → Nat → Int32
  | 0 => fun _ => 0
  | k + 1 => upd (lnF k) k (-1000000)
theorem lnF_8 {r : Nat} (hr : r < 8) : lnF 8 r = -1000000 := by
  have : ∀ r, r < 8 → lnF 8 r = -1000000 := by decide +kernel
  exact this r hr
set_option maxRecDepth 20000 in
set_option maxHeartbeats 4000000 in
theorem c_init8 {G : mG} {h : mHp} {b : Nat} (he : h b = some (.inr (8, [.null, .null, .null, .null, .int 0, .null, .int 0, .int 0, .int 0, .int 0, .int 0, .int 0, .int 0, .null, .null, .null, .null, .int 0, .null, .null, .null, .null, .null, .null, .int 0, .long 0, .int 0, .null, .null, .null, .int 0]))) : RetC G 1 18 10955 (b + 1) mX8_init [.ref b] h none (ov h b (modL b (lnF 8) (fun _ => 0) (fun _ => 0) (fun _ => 0) 0 (fun _ => 0) 0 0 0 0 0 0 0 (fun _ _ => 0) (fun _ => 0) 0 (fun _ => 0) (fun _ => 0) (fun _ => 0) (fun _ => 0) (fun _ => 0) (fun _ => 0) 0 0 0 (fun _ => 0) (fun _ => 0) (fun _ => 0) 0)) := by
  refine RetC.ofI [(0, .ref b)] (by decide) rfl (Nat.le_of_ble_eq_true rfl) rfl ?_
  rintro Z rfl X A Y J O
  refine SW.heq (h2 := ov h b [.inr (8, [.null, .null, .null, .null, .int 0, .null, .int 0, .int 0, .int 0, .int 0, .int 0, .int 0, .int 0, .null, .null, .null, .null, .int 0, .null, .null, .null, .null, .null, .null, .int 0, .long 0, .int 0, .null, .null, .null, .int 0])]) (ov_self (fun j c hj => by cases j with | zero => exact (Option.some.inj hj) ▸ he | succ j => cases hj)).symm ?_
  refine r_aload_n X 0 dX8_init_0 rfl ?_
  refine r_obj X (by decide) (wG 993 (by decide +kernel) (by decide +kernel)) wOi wOc (Nat.zero_le _) dX8_init_1 ?_
  refine r_aload_n X 0 dX8_init_4 rfl ?_
  refine r_bipush X (nI 8) dX8_init_5 (by decide) ?_
  refine r_newi X A (by decide) (Or.inl rfl) (by decide) (by decide) dX8_init_7 ?_
  refine SW.heq (h2 := ov h b [.inr (8, [.null, .null, .null, .null, .int 0, .null, .int 0, .int 0, .int 0, .int 0, .int 0, .int 0, .int 0, .null, .null, .null, .null, .int 0, .null, .null, .null, .null, .null, .null, .int 0, .long 0, .int 0, .null, .null, .null, .int 0]), .inl (0, 8, .inl (fun _ => 0))]) (ov_app rfl rfl) ?_
  have X := mCx.g1 (k := 8) X A (by decide) (by decide)
  have Y := mEndC.g1 (k := 8) Y A
  have J := mIn.g1 (k := 8) J
  have A := mAl.g1 (k := 8) A
  refine r_putF X J (ref := RX8) inG8 tyX8 tyX8_ok nmX8 rfl 0 (by decide) (wG 995 (by decide +kernel) (by decide +kernel)) rfl rfl rfl rfl rfl dX8_init_9 (ov_isV (d := b) 0 _ rfl) (Nat.le_of_ble_eq_true rfl) ?_
  refine SW.heq (h2 := ov h b [.inr (8, [.ref (b + 1), .null, .null, .null, .int 0, .null, .int 0, .int 0, .int 0, .int 0, .int 0, .int 0, .int 0, .null, .null, .null, .null, .int 0, .null, .null, .null, .null, .null, .null, .int 0, .long 0, .int 0, .null, .null, .null, .int 0]), .inl (0, 8, .inl (fun _ => 0))]) (ov_up 0 (Nat.succ_pos _) rfl) ?_
  refine r_aload_n X 0 dX8_init_12 rfl ?_
  refine r_bipush X (nI 8) dX8_init_13 (by decide) ?_
  refine r_newi X A (by decide) (Or.inr ⟨_, ov_isV (d := b) 1 _ rfl⟩) (by decide) (by decide) dX8_init_15 ?_
  refine SW.heq (h2 := ov h b [.inr (8, [.ref (b + 1), .null, .null, .null, .int 0, .null, .int 0, .int 0, .int 0, .int 0, .int 0, .int 0, .int 0, .null, .null, .null, .null, .int 0, .null, .null, .null, .null, .null, .null, .int 0, .long 0, .int 0, .null, .null, .null, .int 0]), .inl (0, 8, .inl (fun _ => 0)), .inl (0, 8, .inl (fun _ => 0))]) (ov_app rfl rfl) ?_
  have X := mCx.g1 (k := 8) X A (by decide) (by decide)
  have Y := mEndC.g1 (k := 8) Y A
  have J := mIn.g1 (k := 8) J
  have A := mAl.g1 (k := 8) A
  refine r_putF X J (ref := RX8) inG8 tyX8 tyX8_ok nmX8 rfl 1 (by decide) (wG 996 (by decide +kernel) (by decide +kernel)) rfl rfl rfl rfl rfl dX8_init_17 (ov_isV (d := b) 0 _ rfl) (Nat.le_of_ble_eq_true rfl) ?_
  refine SW.heq (h2 := ov h b [.inr (8, [.ref (b + 1), .ref (b + 2), .null, .null, .int 0, .null, .int 0, .int 0, .int 0, .int 0, .int 0, .int 0, .int 0, .null, .null, .null, .null, .int 0, .null, .null, .null, .null, .null, .null, .int 0, .long 0, .int 0, .null, .null, .null, .int 0]), .inl (0, 8, .inl (fun _ => 0)), .inl (0, 8, .inl (fun _ => 0))]) (ov_up 0 (Nat.succ_pos _) rfl) ?_
  refine r_aload_n X 0 dX8_init_20 rfl ?_
  refine r_sipush X (nI 320) dX8_init_21 (by decide) ?_
  refine r_newi X A (by decide) (Or.inr ⟨_, ov_isV (d := b) 2 _ rfl⟩) (by decide) (by decide) dX8_init_24 ?_
  refine SW.heq (h2 := ov h b [.inr (8, [.ref (b + 1), .ref (b + 2), .null, .null, .int 0, .null, .int 0, .int 0, .int 0, .int 0, .int 0, .int 0, .int 0, .null, .null, .null, .null, .int 0, .null, .null, .null, .null, .null, .null, .int 0, .long 0, .int 0, .null, .null, .null, .int 0]), .inl (0, 8, .inl (fun _ => 0)), .inl (0, 8, .inl (fun _ => 0)), .inl (0, 320, .inl (fun _ => 0))]) (ov_app rfl rfl) ?_
  have X := mCx.g1 (k := 320) X A (by decide) (by decide)
  have Y := mEndC.g1 (k := 320) Y A
  have J := mIn.g1 (k := 320) J
  have A := mAl.g1 (k := 320) A
  refine r_putF X J (ref := RX8) inG8 tyX8 tyX8_ok nmX8 rfl 2 (by decide) (wG 997 (by decide +kernel) (by decide +kernel)) rfl rfl rfl rfl rfl dX8_init_26 (ov_isV (d := b) 0 _ rfl) (Nat.le_of_ble_eq_true rfl) ?_
  refine SW.heq (h2 := ov h b [.inr (8, [.ref (b + 1), .ref (b + 2), .ref (b + 3), .null, .int 0, .null, .int 0, .int 0, .int 0, .int 0, .int 0, .int 0, .int 0, .null, .null, .null, .null, .int 0, .null, .null, .null, .null, .null, .null, .int 0, .long 0, .int 0, .null, .null, .null, .int 0]), .inl (0, 8, .inl (fun _ => 0)), .inl (0, 8, .inl (fun _ => 0)), .inl (0, 320, .inl (fun _ => 0))]) (ov_up 0 (Nat.succ_pos _) rfl) ?_
  refine r_aload_n X 0 dX8_init_29 rfl ?_
  refine r_bipush X (nI 40) dX8_init_30 (by decide) ?_
  refine r_newi X A (by decide) (Or.inr ⟨_, ov_isV (d := b) 3 _ rfl⟩) (by decide) (by decide) dX8_init_32 ?_
  refine SW.heq (h2 := ov h b [.inr (8, [.ref (b + 1), .ref (b + 2), .ref (b + 3), .null, .int 0, .null, .int 0, .int 0, .int 0, .int 0, .int 0, .int 0, .int 0, .null, .null, .null, .null, .int 0, .null, .null, .null, .null, .null, .null, .int 0, .long 0, .int 0, .null, .null, .null, .int 0]), .inl (0, 8, .inl (fun _ => 0)), .inl (0, 8, .inl (fun _ => 0)), .inl (0, 320, .inl (fun _ => 0)), .inl (0, 40, .inl (fun _ => 0))]) (ov_app rfl rfl) ?_
  have X := mCx.g1 (k := 40) X A (by decide) (by decide)
  have Y := mEndC.g1 (k := 40) Y A
  have J := mIn.g1 (k := 40) J
  have A := mAl.g1 (k := 40) A
  refine r_putF X J (ref := RX8) inG8 tyX8 tyX8_ok nmX8 rfl 3 (by decide) (wG 998 (by decide +kernel) (by decide +kernel)) rfl rfl rfl rfl rfl dX8_init_34 (ov_isV (d := b) 0 _ rfl) (Nat.le_of_ble_eq_true rfl) ?_
  refine SW.heq (h2 := ov h b [.inr (8, [.ref (b + 1), .ref (b + 2), .ref (b + 3), .ref (b + 4), .int 0, .null, .int 0, .int 0, .int 0, .int 0, .int 0, .int 0, .int 0, .null, .null, .null, .null, .int 0, .null, .null, .null, .null, .null, .null, .int 0, .long 0, .int 0, .null, .null, .null, .int 0]), .inl (0, 8, .inl (fun _ => 0)), .inl (0, 8, .inl (fun _ => 0)), .inl (0, 320, .inl (fun _ => 0)), .inl (0, 40, .inl (fun _ => 0))]) (ov_up 0 (Nat.succ_pos _) rfl) ?_
  refine r_aload_n X 0 dX8_init_37 rfl ?_
  refine r_bipush X (nI 120) dX8_init_38 (by decide) ?_
  refine r_newi X A (by decide) (Or.inr ⟨_, ov_isV (d := b) 4 _ rfl⟩) (by decide) (by decide) dX8_init_40 ?_
  refine SW.heq (h2 := ov h b [.inr (8, [.ref (b + 1), .ref (b + 2), .ref (b + 3), .ref (b + 4), .int 0, .null, .int 0, .int 0, .int 0, .int 0, .int 0, .int 0, .int 0, .null, .null, .null, .null, .int 0, .null, .null, .null, .null, .null, .null, .int 0, .long 0, .int 0, .null, .null, .null, .int 0]), .inl (0, 8, .inl (fun _ => 0)), .inl (0, 8, .inl (fun _ => 0)), .inl (0, 320, .inl (fun _ => 0)), .inl (0, 40, .inl (fun _ => 0)), .inl (0, 120, .inl (fun _ => 0))]) (ov_app rfl rfl) ?_
  have X := mCx.g1 (k := 120) X A (by decide) (by decide)
  have Y := mEndC.g1 (k := 120) Y A
  have J := mIn.g1 (k := 120) J
  have A := mAl.g1 (k := 120) A
  refine r_putF X J (ref := RX8) inG8 tyX8 tyX8_ok nmX8 rfl 5 (by decide) (wG 1000 (by decide +kernel) (by decide +kernel)) rfl rfl rfl rfl rfl dX8_init_42 (ov_isV (d := b) 0 _ rfl) (Nat.le_of_ble_eq_true rfl) ?_
  refine SW.heq (h2 := ov h b [.inr (8, [.ref (b + 1), .ref (b + 2), .ref (b + 3), .ref (b + 4), .int 0, .ref (b + 5), .int 0, .int 0, .int 0, .int 0, .int 0, .int 0, .int 0, .null, .null, .null, .null, .int 0, .null, .null, .null, .null, .null, .null, .int 0, .long 0, .int 0, .null, .null, .null, .int 0]), .inl (0, 8, .inl (fun _ => 0)), .inl (0, 8, .inl (fun _ => 0)), .inl (0, 320, .inl (fun _ => 0)), .inl (0, 40, .inl (fun _ => 0)), .inl (0, 120, .inl (fun _ => 0))]) (ov_up 0 (Nat.succ_pos _) rfl) ?_
  refine r_aload_n X 0 dX8_init_45 rfl ?_
  refine r_bipush X (nI 41) dX8_init_46 (by decide) ?_
  refine r_newi X A (by decide) (Or.inr ⟨_, ov_isV (d := b) 5 _ rfl⟩) (by decide) (by decide) dX8_init_48 ?_
  refine SW.heq (h2 := ov h b [.inr (8, [.ref (b + 1), .ref (b + 2), .ref (b + 3), .ref (b + 4), .int 0, .ref (b + 5), .int 0, .int 0, .int 0, .int 0, .int 0, .int 0, .int 0, .null, .null, .null, .null, .int 0, .null, .null, .null, .null, .null, .null, .int 0, .long 0, .int 0, .null, .null, .null, .int 0]), .inl (0, 8, .inl (fun _ => 0)), .inl (0, 8, .inl (fun _ => 0)), .inl (0, 320, .inl (fun _ => 0)), .inl (0, 40, .inl (fun _ => 0)), .inl (0, 120, .inl (fun _ => 0)), .inl (0, 41, .inl (fun _ => 0))]) (ov_app rfl rfl) ?_
  have X := mCx.g1 (k := 41) X A (by decide) (by decide)
  have Y := mEndC.g1 (k := 41) Y A
  have J := mIn.g1 (k := 41) J
  have A := mAl.g1 (k := 41) A
  refine r_putF X J (ref := RX8) inG8 tyX8 tyX8_ok nmX8 rfl 13 (by decide) (wG 1008 (by decide +kernel) (by decide +kernel)) rfl rfl rfl rfl rfl dX8_init_50 (ov_isV (d := b) 0 _ rfl) (Nat.le_of_ble_eq_true rfl) ?_
  refine SW.heq (h2 := ov h b [.inr (8, [.ref (b + 1), .ref (b + 2), .ref (b + 3), .ref (b + 4), .int 0, .ref (b + 5), .int 0, .int 0, .int 0, .int 0, .int 0, .int 0, .int 0, .ref (b + 6), .null, .null, .null, .int 0, .null, .null, .null, .null, .null, .null, .int 0, .long 0, .int 0, .null, .null, .null, .int 0]), .inl (0, 8, .inl (fun _ => 0)), .inl (0, 8, .inl (fun _ => 0)), .inl (0, 320, .inl (fun _ => 0)), .inl (0, 40, .inl (fun _ => 0)), .inl (0, 120, .inl (fun _ => 0)), .inl (0, 41, .inl (fun _ => 0))]) (ov_up 0 (Nat.succ_pos _) rfl) ?_
  refine r_aload_n X 0 dX8_init_53 rfl ?_
  refine r_bipush X (nI 41) dX8_init_54 (by decide) ?_
  refine r_newi X A (by decide) (Or.inr ⟨_, ov_isV (d := b) 6 _ rfl⟩) (by decide) (by decide) dX8_init_56 ?_
  refine SW.heq (h2 := ov h b [.inr (8, [.ref (b + 1), .ref (b + 2), .ref (b + 3), .ref (b + 4), .int 0, .ref (b + 5), .int 0, .int 0, .int 0, .int 0, .int 0, .int 0, .int 0, .ref (b + 6), .null, .null, .null, .int 0, .null, .null, .null, .null, .null, .null, .int 0, .long 0, .int 0, .null, .null, .null, .int 0]), .inl (0, 8, .inl (fun _ => 0)), .inl (0, 8, .inl (fun _ => 0)), .inl (0, 320, .inl (fun _ => 0)), .inl (0, 40, .inl (fun _ => 0)), .inl (0, 120, .inl (fun _ => 0)), .inl (0, 41, .inl (fun _ => 0)), .inl (0, 41, .inl (fun _ => 0))]) (ov_app rfl rfl) ?_
  have X := mCx.g1 (k := 41) X A (by decide) (by decide)
  have Y := mEndC.g1 (k := 41) Y A
  have J := mIn.g1 (k := 41) J
  have A := mAl.g1 (k := 41) A
  refine r_putF X J (ref := RX8) inG8 tyX8 tyX8_ok nmX8 rfl 14 (by decide) (wG 1009 (by decide +kernel) (by decide +kernel)) rfl rfl rfl rfl rfl dX8_init_58 (ov_isV (d := b) 0 _ rfl) (Nat.le_of_ble_eq_true rfl) ?_
  refine SW.heq (h2 := ov h b [.inr (8, [.ref (b + 1), .ref (b + 2), .ref (b + 3), .ref (b + 4), .int 0, .ref (b + 5), .int 0, .int 0, .int 0, .int 0, .int 0, .int 0, .int 0, .ref (b + 6), .ref (b + 7), .null, .null, .int 0, .null, .null, .null, .null, .null, .null, .int 0, .long 0, .int 0, .null, .null, .null, .int 0]), .inl (0, 8, .inl (fun _ => 0)), .inl (0, 8, .inl (fun _ => 0)), .inl (0, 320, .inl (fun _ => 0)), .inl (0, 40, .inl (fun _ => 0)), .inl (0, 120, .inl (fun _ => 0)), .inl (0, 41, .inl (fun _ => 0)), .inl (0, 41, .inl (fun _ => 0))]) (ov_up 0 (Nat.succ_pos _) rfl) ?_
  refine r_aload_n X 0 dX8_init_61 rfl ?_
  refine r_bipush X (nI 41) dX8_init_62 (by decide) ?_
  refine r_newi X A (by decide) (Or.inr ⟨_, ov_isV (d := b) 7 _ rfl⟩) (by decide) (by decide) dX8_init_64 ?_
  refine SW.heq (h2 := ov h b [.inr (8, [.ref (b + 1), .ref (b + 2), .ref (b + 3), .ref (b + 4), .int 0, .ref (b + 5), .int 0, .int 0, .int 0, .int 0, .int 0, .int 0, .int 0, .ref (b + 6), .ref (b + 7), .null, .null, .int 0, .null, .null, .null, .null, .null, .null, .int 0, .long 0, .int 0, .null, .null, .null, .int 0]), .inl (0, 8, .inl (fun _ => 0)), .inl (0, 8, .inl (fun _ => 0)), .inl (0, 320, .inl (fun _ => 0)), .inl (0, 40, .inl (fun _ => 0)), .inl (0, 120, .inl (fun _ => 0)), .inl (0, 41, .inl (fun _ => 0)), .inl (0, 41, .inl (fun _ => 0)), .inl (0, 41, .inl (fun _ => 0))]) (ov_app rfl rfl) ?_
  have X := mCx.g1 (k := 41) X A (by decide) (by decide)
  have Y := mEndC.g1 (k := 41) Y A
  have J := mIn.g1 (k := 41) J
  have A := mAl.g1 (k := 41) A
  refine r_putF X J (ref := RX8) inG8 tyX8 tyX8_ok nmX8 rfl 15 (by decide) (wG 1010 (by decide +kernel) (by decide +kernel)) rfl rfl rfl rfl rfl dX8_init_66 (ov_isV (d := b) 0 _ rfl) (Nat.le_of_ble_eq_true rfl) ?_
  refine SW.heq (h2 := ov h b [.inr (8, [.ref (b + 1), .ref (b + 2), .ref (b + 3), .ref (b + 4), .int 0, .ref (b + 5), .int 0, .int 0, .int 0, .int 0, .int 0, .int 0, .int 0, .ref (b + 6), .ref (b + 7), .ref (b + 8), .null, .int 0, .null, .null, .null, .null, .null, .null, .int 0, .long 0, .int 0, .null, .null, .null, .int 0]), .inl (0, 8, .inl (fun _ => 0)), .inl (0, 8, .inl (fun _ => 0)), .inl (0, 320, .inl (fun _ => 0)), .inl (0, 40, .inl (fun _ => 0)), .inl (0, 120, .inl (fun _ => 0)), .inl (0, 41, .inl (fun _ => 0)), .inl (0, 41, .inl (fun _ => 0)), .inl (0, 41, .inl (fun _ => 0))]) (ov_up 0 (Nat.succ_pos _) rfl) ?_
  refine r_aload_n X 0 dX8_init_69 rfl ?_
  refine r_sipush X (nI 656) dX8_init_70 (by decide) ?_
  refine r_newi X A (by decide) (Or.inr ⟨_, ov_isV (d := b) 8 _ rfl⟩) (by decide) (by decide) dX8_init_73 ?_
  refine SW.heq (h2 := ov h b [.inr (8, [.ref (b + 1), .ref (b + 2), .ref (b + 3), .ref (b + 4), .int 0, .ref (b + 5), .int 0, .int 0, .int 0, .int 0, .int 0, .int 0, .int 0, .ref (b + 6), .ref (b + 7), .ref (b + 8), .null, .int 0, .null, .null, .null, .null, .null, .null, .int 0, .long 0, .int 0, .null, .null, .null, .int 0]), .inl (0, 8, .inl (fun _ => 0)), .inl (0, 8, .inl (fun _ => 0)), .inl (0, 320, .inl (fun _ => 0)), .inl (0, 40, .inl (fun _ => 0)), .inl (0, 120, .inl (fun _ => 0)), .inl (0, 41, .inl (fun _ => 0)), .inl (0, 41, .inl (fun _ => 0)), .inl (0, 41, .inl (fun _ => 0)), .inl (0, 656, .inl (fun _ => 0))]) (ov_app rfl rfl) ?_
  have X := mCx.g1 (k := 656) X A (by decide) (by decide)
  have Y := mEndC.g1 (k := 656) Y A
  have J := mIn.g1 (k := 656) J
  have A := mAl.g1 (k := 656) A
  refine r_putF X J (ref := RX8) inG8 tyX8 tyX8_ok nmX8 rfl 16 (by decide) (wG 1011 (by decide +kernel) (by decide +kernel)) rfl rfl rfl rfl rfl dX8_init_75 (ov_isV (d := b) 0 _ rfl) (Nat.le_of_ble_eq_true rfl) ?_
  refine SW.heq (h2 := ov h b [.inr (8, [.ref (b + 1), .ref (b + 2), .ref (b + 3), .ref (b + 4), .int 0, .ref (b + 5), .int 0, .int 0, .int 0, .int 0, .int 0, .int 0, .int 0, .ref (b + 6), .ref (b + 7), .ref (b + 8), .ref (b + 9), .int 0, .null, .null, .null, .null, .null, .null, .int 0, .long 0, .int 0, .null, .null, .null, .int 0]), .inl (0, 8, .inl (fun _ => 0)), .inl (0, 8, .inl (fun _ => 0)), .inl (0, 320, .inl (fun _ => 0)), .inl (0, 40, .inl (fun _ => 0)), .inl (0, 120, .inl (fun _ => 0)), .inl (0, 41, .inl (fun _ => 0)), .inl (0, 41, .inl (fun _ => 0)), .inl (0, 41, .inl (fun _ => 0)), .inl (0, 656, .inl (fun _ => 0))]) (ov_up 0 (Nat.succ_pos _) rfl) ?_
  refine r_aload_n X 0 dX8_init_78 rfl ?_
  refine r_bipush X (nI 82) dX8_init_79 (by decide) ?_
  refine r_newi X A (by decide) (Or.inr ⟨_, ov_isV (d := b) 9 _ rfl⟩) (by decide) (by decide) dX8_init_81 ?_
  refine SW.heq (h2 := ov h b [.inr (8, [.ref (b + 1), .ref (b + 2), .ref (b + 3), .ref (b + 4), .int 0, .ref (b + 5), .int 0, .int 0, .int 0, .int 0, .int 0, .int 0, .int 0, .ref (b + 6), .ref (b + 7), .ref (b + 8), .ref (b + 9), .int 0, .null, .null, .null, .null, .null, .null, .int 0, .long 0, .int 0, .null, .null, .null, .int 0]), .inl (0, 8, .inl (fun _ => 0)), .inl (0, 8, .inl (fun _ => 0)), .inl (0, 320, .inl (fun _ => 0)), .inl (0, 40, .inl (fun _ => 0)), .inl (0, 120, .inl (fun _ => 0)), .inl (0, 41, .inl (fun _ => 0)), .inl (0, 41, .inl (fun _ => 0)), .inl (0, 41, .inl (fun _ => 0)), .inl (0, 656, .inl (fun _ => 0)), .inl (0, 82, .inl (fun _ => 0))]) (ov_app rfl rfl) ?_
  have X := mCx.g1 (k := 82) X A (by decide) (by decide)
  have Y := mEndC.g1 (k := 82) Y A
  have J := mIn.g1 (k := 82) J
  have A := mAl.g1 (k := 82) A
  refine r_putF X J (ref := RX8) inG8 tyX8 tyX8_ok nmX8 rfl 18 (by decide) (wG 1013 (by decide +kernel) (by decide +kernel)) rfl rfl rfl rfl rfl dX8_init_83 (ov_isV (d := b) 0 _ rfl) (Nat.le_of_ble_eq_true rfl) ?_
  refine SW.heq (h2 := ov h b [.inr (8, [.ref (b + 1), .ref (b + 2), .ref (b + 3), .ref (b + 4), .int 0, .ref (b + 5), .int 0, .int 0, .int 0, .int 0, .int 0, .int 0, .int 0, .ref (b + 6), .ref (b + 7), .ref (b + 8), .ref (b + 9), .int 0, .ref (b + 10), .null, .null, .null, .null, .null, .int 0, .long 0, .int 0, .null, .null, .null, .int 0]), .inl (0, 8, .inl (fun _ => 0)), .inl (0, 8, .inl (fun _ => 0)), .inl (0, 320, .inl (fun _ => 0)), .inl (0, 40, .inl (fun _ => 0)), .inl (0, 120, .inl (fun _ => 0)), .inl (0, 41, .inl (fun _ => 0)), .inl (0, 41, .inl (fun _ => 0)), .inl (0, 41, .inl (fun _ => 0)), .inl (0, 656, .inl (fun _ => 0)), .inl (0, 82, .inl (fun _ => 0))]) (ov_up 0 (Nat.succ_pos _) rfl) ?_
  refine r_aload_n X 0 dX8_init_86 rfl ?_
  refine r_iconst X (nI 2) dX8_init_87 (by decide) ?_
  refine r_newz X A (by decide) (Or.inr ⟨_, ov_isV (d := b) 10 _ rfl⟩) (by decide) (by decide) dX8_init_88 ?_
  refine SW.heq (h2 := ov h b [.inr (8, [.ref (b + 1), .ref (b + 2), .ref (b + 3), .ref (b + 4), .int 0, .ref (b + 5), .int 0, .int 0, .int 0, .int 0, .int 0, .int 0, .int 0, .ref (b + 6), .ref (b + 7), .ref (b + 8), .ref (b + 9), .int 0, .ref (b + 10), .null, .null, .null, .null, .null, .int 0, .long 0, .int 0, .null, .null, .null, .int 0]), .inl (0, 8, .inl (fun _ => 0)), .inl (0, 8, .inl (fun _ => 0)), .inl (0, 320, .inl (fun _ => 0)), .inl (0, 40, .inl (fun _ => 0)), .inl (0, 120, .inl (fun _ => 0)), .inl (0, 41, .inl (fun _ => 0)), .inl (0, 41, .inl (fun _ => 0)), .inl (0, 41, .inl (fun _ => 0)), .inl (0, 656, .inl (fun _ => 0)), .inl (0, 82, .inl (fun _ => 0)), .inl (2, 2, .inl (fun _ => 0))]) (ov_app rfl rfl) ?_
  have X := mCx.g1 (k := 2) X A (by decide) (by decide)
  have Y := mEndC.g1 (k := 2) Y A
  have J := mIn.g1 (k := 2) J
  have A := mAl.g1 (k := 2) A
  refine r_putF X J (ref := RX8) inG8 tyX8 tyX8_ok nmX8 rfl 19 (by decide) (wG 1014 (by decide +kernel) (by decide +kernel)) rfl rfl rfl rfl rfl dX8_init_90 (ov_isV (d := b) 0 _ rfl) (Nat.le_of_ble_eq_true rfl) ?_
  refine SW.heq (h2 := ov h b [.inr (8, [.ref (b + 1), .ref (b + 2), .ref (b + 3), .ref (b + 4), .int 0, .ref (b + 5), .int 0, .int 0, .int 0, .int 0, .int 0, .int 0, .int 0, .ref (b + 6), .ref (b + 7), .ref (b + 8), .ref (b + 9), .int 0, .ref (b + 10), .ref (b + 11), .null, .null, .null, .null, .int 0, .long 0, .int 0, .null, .null, .null, .int 0]), .inl (0, 8, .inl (fun _ => 0)), .inl (0, 8, .inl (fun _ => 0)), .inl (0, 320, .inl (fun _ => 0)), .inl (0, 40, .inl (fun _ => 0)), .inl (0, 120, .inl (fun _ => 0)), .inl (0, 41, .inl (fun _ => 0)), .inl (0, 41, .inl (fun _ => 0)), .inl (0, 41, .inl (fun _ => 0)), .inl (0, 656, .inl (fun _ => 0)), .inl (0, 82, .inl (fun _ => 0)), .inl (2, 2, .inl (fun _ => 0))]) (ov_up 0 (Nat.succ_pos _) rfl) ?_
  refine r_aload_n X 0 dX8_init_93 rfl ?_
  refine r_iconst X (nI 4) dX8_init_94 (by decide) ?_
  refine r_newi X A (by decide) (Or.inr ⟨_, ov_isV (d := b) 11 _ rfl⟩) (by decide) (by decide) dX8_init_95 ?_
  refine SW.heq (h2 := ov h b [.inr (8, [.ref (b + 1), .ref (b + 2), .ref (b + 3), .ref (b + 4), .int 0, .ref (b + 5), .int 0, .int 0, .int 0, .int 0, .int 0, .int 0, .int 0, .ref (b + 6), .ref (b + 7), .ref (b + 8), .ref (b + 9), .int 0, .ref (b + 10), .ref (b + 11), .null, .null, .null, .null, .int 0, .long 0, .int 0, .null, .null, .null, .int 0]), .inl (0, 8, .inl (fun _ => 0)), .inl (0, 8, .inl (fun _ => 0)), .inl (0, 320, .inl (fun _ => 0)), .inl (0, 40, .inl (fun _ => 0)), .inl (0, 120, .inl (fun _ => 0)), .inl (0, 41, .inl (fun _ => 0)), .inl (0, 41, .inl (fun _ => 0)), .inl (0, 41, .inl (fun _ => 0)), .inl (0, 656, .inl (fun _ => 0)), .inl (0, 82, .inl (fun _ => 0)), .inl (2, 2, .inl (fun _ => 0)), .inl (0, 4, .inl (fun _ => 0))]) (ov_app rfl rfl) ?_
  have X := mCx.g1 (k := 4) X A (by decide) (by decide)
  have Y := mEndC.g1 (k := 4) Y A
  have J := mIn.g1 (k := 4) J
  have A := mAl.g1 (k := 4) A
  refine r_putF X J (ref := RX8) inG8 tyX8 tyX8_ok nmX8 rfl 20 (by decide) (wG 1015 (by decide +kernel) (by decide +kernel)) rfl rfl rfl rfl rfl dX8_init_97 (ov_isV (d := b) 0 _ rfl) (Nat.le_of_ble_eq_true rfl) ?_
  refine SW.heq (h2 := ov h b [.inr (8, [.ref (b + 1), .ref (b + 2), .ref (b + 3), .ref (b + 4), .int 0, .ref (b + 5), .int 0, .int 0, .int 0, .int 0, .int 0, .int 0, .int 0, .ref (b + 6), .ref (b + 7), .ref (b + 8), .ref (b + 9), .int 0, .ref (b + 10), .ref (b + 11), .ref (b + 12), .null, .null, .null, .int 0, .long 0, .int 0, .null, .null, .null, .int 0]), .inl (0, 8, .inl (fun _ => 0)), .inl (0, 8, .inl (fun _ => 0)), .inl (0, 320, .inl (fun _ => 0)), .inl (0, 40, .inl (fun _ => 0)), .inl (0, 120, .inl (fun _ => 0)), .inl (0, 41, .inl (fun _ => 0)), .inl (0, 41, .inl (fun _ => 0)), .inl (0, 41, .inl (fun _ => 0)), .inl (0, 656, .inl (fun _ => 0)), .inl (0, 82, .inl (fun _ => 0)), .inl (2, 2, .inl (fun _ => 0)), .inl (0, 4, .inl (fun _ => 0))]) (ov_up 0 (Nat.succ_pos _) rfl) ?_
  refine r_aload_n X 0 dX8_init_100 rfl ?_
  refine r_sipush X (nI 486) dX8_init_101 (by decide) ?_
  refine r_newi X A (by decide) (Or.inr ⟨_, ov_isV (d := b) 12 _ rfl⟩) (by decide) (by decide) dX8_init_104 ?_
  refine SW.heq (h2 := ov h b [.inr (8, [.ref (b + 1), .ref (b + 2), .ref (b + 3), .ref (b + 4), .int 0, .ref (b + 5), .int 0, .int 0, .int 0, .int 0, .int 0, .int 0, .int 0, .ref (b + 6), .ref (b + 7), .ref (b + 8), .ref (b + 9), .int 0, .ref (b + 10), .ref (b + 11), .ref (b + 12), .null, .null, .null, .int 0, .long 0, .int 0, .null, .null, .null, .int 0]), .inl (0, 8, .inl (fun _ => 0)), .inl (0, 8, .inl (fun _ => 0)), .inl (0, 320, .inl (fun _ => 0)), .inl (0, 40, .inl (fun _ => 0)), .inl (0, 120, .inl (fun _ => 0)), .inl (0, 41, .inl (fun _ => 0)), .inl (0, 41, .inl (fun _ => 0)), .inl (0, 41, .inl (fun _ => 0)), .inl (0, 656, .inl (fun _ => 0)), .inl (0, 82, .inl (fun _ => 0)), .inl (2, 2, .inl (fun _ => 0)), .inl (0, 4, .inl (fun _ => 0)), .inl (0, 486, .inl (fun _ => 0))]) (ov_app rfl rfl) ?_
  have X := mCx.g1 (k := 486) X A (by decide) (by decide)
  have Y := mEndC.g1 (k := 486) Y A
  have J := mIn.g1 (k := 486) J
  have A := mAl.g1 (k := 486) A
  refine r_putF X J (ref := RX8) inG8 tyX8 tyX8_ok nmX8 rfl 21 (by decide) (wG 1016 (by decide +kernel) (by decide +kernel)) rfl rfl rfl rfl rfl dX8_init_106 (ov_isV (d := b) 0 _ rfl) (Nat.le_of_ble_eq_true rfl) ?_
  refine SW.heq (h2 := ov h b [.inr (8, [.ref (b + 1), .ref (b + 2), .ref (b + 3), .ref (b + 4), .int 0, .ref (b + 5), .int 0, .int 0, .int 0, .int 0, .int 0, .int 0, .int 0, .ref (b + 6), .ref (b + 7), .ref (b + 8), .ref (b + 9), .int 0, .ref (b + 10), .ref (b + 11), .ref (b + 12), .ref (b + 13), .null, .null, .int 0, .long 0, .int 0, .null, .null, .null, .int 0]), .inl (0, 8, .inl (fun _ => 0)), .inl (0, 8, .inl (fun _ => 0)), .inl (0, 320, .inl (fun _ => 0)), .inl (0, 40, .inl (fun _ => 0)), .inl (0, 120, .inl (fun _ => 0)), .inl (0, 41, .inl (fun _ => 0)), .inl (0, 41, .inl (fun _ => 0)), .inl (0, 41, .inl (fun _ => 0)), .inl (0, 656, .inl (fun _ => 0)), .inl (0, 82, .inl (fun _ => 0)), .inl (2, 2, .inl (fun _ => 0)), .inl (0, 4, .inl (fun _ => 0)), .inl (0, 486, .inl (fun _ => 0))]) (ov_up 0 (Nat.succ_pos _) rfl) ?_
  refine r_aload_n X 0 dX8_init_109 rfl ?_
  refine r_sipush X (nI 9072) dX8_init_110 (by decide) ?_
  refine r_newi X A (by decide) (Or.inr ⟨_, ov_isV (d := b) 13 _ rfl⟩) (by decide) (by decide) dX8_init_113 ?_
  refine SW.heq (h2 := ov h b [.inr (8, [.ref (b + 1), .ref (b + 2), .ref (b + 3), .ref (b + 4), .int 0, .ref (b + 5), .int 0, .int 0, .int 0, .int 0, .int 0, .int 0, .int 0, .ref (b + 6), .ref (b + 7), .ref (b + 8), .ref (b + 9), .int 0, .ref (b + 10), .ref (b + 11), .ref (b + 12), .ref (b + 13), .null, .null, .int 0, .long 0, .int 0, .null, .null, .null, .int 0]), .inl (0, 8, .inl (fun _ => 0)), .inl (0, 8, .inl (fun _ => 0)), .inl (0, 320, .inl (fun _ => 0)), .inl (0, 40, .inl (fun _ => 0)), .inl (0, 120, .inl (fun _ => 0)), .inl (0, 41, .inl (fun _ => 0)), .inl (0, 41, .inl (fun _ => 0)), .inl (0, 41, .inl (fun _ => 0)), .inl (0, 656, .inl (fun _ => 0)), .inl (0, 82, .inl (fun _ => 0)), .inl (2, 2, .inl (fun _ => 0)), .inl (0, 4, .inl (fun _ => 0)), .inl (0, 486, .inl (fun _ => 0)), .inl (0, 9072, .inl (fun _ => 0))]) (ov_app rfl rfl) ?_
  have X := mCx.g1 (k := 9072) X A (by decide) (by decide)
  have Y := mEndC.g1 (k := 9072) Y A
  have J := mIn.g1 (k := 9072) J
  have A := mAl.g1 (k := 9072) A
  refine r_putF X J (ref := RX8) inG8 tyX8 tyX8_ok nmX8 rfl 22 (by decide) (wG 1017 (by decide +kernel) (by decide +kernel)) rfl rfl rfl rfl rfl dX8_init_115 (ov_isV (d := b) 0 _ rfl) (Nat.le_of_ble_eq_true rfl) ?_
  refine SW.heq (h2 := ov h b [.inr (8, [.ref (b + 1), .ref (b + 2), .ref (b + 3), .ref (b + 4), .int 0, .ref (b + 5), .int 0, .int 0, .int 0, .int 0, .int 0, .int 0, .int 0, .ref (b + 6), .ref (b + 7), .ref (b + 8), .ref (b + 9), .int 0, .ref (b + 10), .ref (b + 11), .ref (b + 12), .ref (b + 13), .ref (b + 14), .null, .int 0, .long 0, .int 0, .null, .null, .null, .int 0]), .inl (0, 8, .inl (fun _ => 0)), .inl (0, 8, .inl (fun _ => 0)), .inl (0, 320, .inl (fun _ => 0)), .inl (0, 40, .inl (fun _ => 0)), .inl (0, 120, .inl (fun _ => 0)), .inl (0, 41, .inl (fun _ => 0)), .inl (0, 41, .inl (fun _ => 0)), .inl (0, 41, .inl (fun _ => 0)), .inl (0, 656, .inl (fun _ => 0)), .inl (0, 82, .inl (fun _ => 0)), .inl (2, 2, .inl (fun _ => 0)), .inl (0, 4, .inl (fun _ => 0)), .inl (0, 486, .inl (fun _ => 0)), .inl (0, 9072, .inl (fun _ => 0))]) (ov_up 0 (Nat.succ_pos _) rfl) ?_
  refine r_aload_n X 0 dX8_init_118 rfl ?_
  refine r_bipush X (nI 6) dX8_init_119 (by decide) ?_
  refine r_newi X A (by decide) (Or.inr ⟨_, ov_isV (d := b) 14 _ rfl⟩) (by decide) (by decide) dX8_init_121 ?_
  refine SW.heq (h2 := ov h b [.inr (8, [.ref (b + 1), .ref (b + 2), .ref (b + 3), .ref (b + 4), .int 0, .ref (b + 5), .int 0, .int 0, .int 0, .int 0, .int 0, .int 0, .int 0, .ref (b + 6), .ref (b + 7), .ref (b + 8), .ref (b + 9), .int 0, .ref (b + 10), .ref (b + 11), .ref (b + 12), .ref (b + 13), .ref (b + 14), .null, .int 0, .long 0, .int 0, .null, .null, .null, .int 0]), .inl (0, 8, .inl (fun _ => 0)), .inl (0, 8, .inl (fun _ => 0)), .inl (0, 320, .inl (fun _ => 0)), .inl (0, 40, .inl (fun _ => 0)), .inl (0, 120, .inl (fun _ => 0)), .inl (0, 41, .inl (fun _ => 0)), .inl (0, 41, .inl (fun _ => 0)), .inl (0, 41, .inl (fun _ => 0)), .inl (0, 656, .inl (fun _ => 0)), .inl (0, 82, .inl (fun _ => 0)), .inl (2, 2, .inl (fun _ => 0)), .inl (0, 4, .inl (fun _ => 0)), .inl (0, 486, .inl (fun _ => 0)), .inl (0, 9072, .inl (fun _ => 0)), .inl (0, 6, .inl (fun _ => 0))]) (ov_app rfl rfl) ?_
  have X := mCx.g1 (k := 6) X A (by decide) (by decide)
  have Y := mEndC.g1 (k := 6) Y A
  have J := mIn.g1 (k := 6) J
  have A := mAl.g1 (k := 6) A
  refine r_putF X J (ref := RX8) inG8 tyX8 tyX8_ok nmX8 rfl 23 (by decide) (wG 1018 (by decide +kernel) (by decide +kernel)) rfl rfl rfl rfl rfl dX8_init_123 (ov_isV (d := b) 0 _ rfl) (Nat.le_of_ble_eq_true rfl) ?_
  refine SW.heq (h2 := ov h b [.inr (8, [.ref (b + 1), .ref (b + 2), .ref (b + 3), .ref (b + 4), .int 0, .ref (b + 5), .int 0, .int 0, .int 0, .int 0, .int 0, .int 0, .int 0, .ref (b + 6), .ref (b + 7), .ref (b + 8), .ref (b + 9), .int 0, .ref (b + 10), .ref (b + 11), .ref (b + 12), .ref (b + 13), .ref (b + 14), .ref (b + 15), .int 0, .long 0, .int 0, .null, .null, .null, .int 0]), .inl (0, 8, .inl (fun _ => 0)), .inl (0, 8, .inl (fun _ => 0)), .inl (0, 320, .inl (fun _ => 0)), .inl (0, 40, .inl (fun _ => 0)), .inl (0, 120, .inl (fun _ => 0)), .inl (0, 41, .inl (fun _ => 0)), .inl (0, 41, .inl (fun _ => 0)), .inl (0, 41, .inl (fun _ => 0)), .inl (0, 656, .inl (fun _ => 0)), .inl (0, 82, .inl (fun _ => 0)), .inl (2, 2, .inl (fun _ => 0)), .inl (0, 4, .inl (fun _ => 0)), .inl (0, 486, .inl (fun _ => 0)), .inl (0, 9072, .inl (fun _ => 0)), .inl (0, 6, .inl (fun _ => 0))]) (ov_up 0 (Nat.succ_pos _) rfl) ?_
  refine r_aload_n X 0 dX8_init_126 rfl ?_
  refine r_bipush X (nI 6) dX8_init_127 (by decide) ?_
  refine r_newj X A (by decide) (Or.inr ⟨_, ov_isV (d := b) 15 _ rfl⟩) (by decide) (by decide) dX8_init_129 ?_
  refine SW.heq (h2 := ov h b [.inr (8, [.ref (b + 1), .ref (b + 2), .ref (b + 3), .ref (b + 4), .int 0, .ref (b + 5), .int 0, .int 0, .int 0, .int 0, .int 0, .int 0, .int 0, .ref (b + 6), .ref (b + 7), .ref (b + 8), .ref (b + 9), .int 0, .ref (b + 10), .ref (b + 11), .ref (b + 12), .ref (b + 13), .ref (b + 14), .ref (b + 15), .int 0, .long 0, .int 0, .null, .null, .null, .int 0]), .inl (0, 8, .inl (fun _ => 0)), .inl (0, 8, .inl (fun _ => 0)), .inl (0, 320, .inl (fun _ => 0)), .inl (0, 40, .inl (fun _ => 0)), .inl (0, 120, .inl (fun _ => 0)), .inl (0, 41, .inl (fun _ => 0)), .inl (0, 41, .inl (fun _ => 0)), .inl (0, 41, .inl (fun _ => 0)), .inl (0, 656, .inl (fun _ => 0)), .inl (0, 82, .inl (fun _ => 0)), .inl (2, 2, .inl (fun _ => 0)), .inl (0, 4, .inl (fun _ => 0)), .inl (0, 486, .inl (fun _ => 0)), .inl (0, 9072, .inl (fun _ => 0)), .inl (0, 6, .inl (fun _ => 0)), .inl (1, 6, .inr (.inl (fun _ => 0)))]) (ov_app rfl rfl) ?_
  have X := mCx.g1 (k := 6) X A (by decide) (by decide)
  have Y := mEndC.g1 (k := 6) Y A
  have J := mIn.g1 (k := 6) J
  have A := mAl.g1 (k := 6) A
  refine r_putF X J (ref := RX8) inG8 tyX8 tyX8_ok nmX8 rfl 27 (by decide) (wG 1022 (by decide +kernel) (by decide +kernel)) rfl rfl rfl rfl rfl dX8_init_131 (ov_isV (d := b) 0 _ rfl) (Nat.le_of_ble_eq_true rfl) ?_
  refine SW.heq (h2 := ov h b [.inr (8, [.ref (b + 1), .ref (b + 2), .ref (b + 3), .ref (b + 4), .int 0, .ref (b + 5), .int 0, .int 0, .int 0, .int 0, .int 0, .int 0, .int 0, .ref (b + 6), .ref (b + 7), .ref (b + 8), .ref (b + 9), .int 0, .ref (b + 10), .ref (b + 11), .ref (b + 12), .ref (b + 13), .ref (b + 14), .ref (b + 15), .int 0, .long 0, .int 0, .ref (b + 16), .null, .null, .int 0]), .inl (0, 8, .inl (fun _ => 0)), .inl (0, 8, .inl (fun _ => 0)), .inl (0, 320, .inl (fun _ => 0)), .inl (0, 40, .inl (fun _ => 0)), .inl (0, 120, .inl (fun _ => 0)), .inl (0, 41, .inl (fun _ => 0)), .inl (0, 41, .inl (fun _ => 0)), .inl (0, 41, .inl (fun _ => 0)), .inl (0, 656, .inl (fun _ => 0)), .inl (0, 82, .inl (fun _ => 0)), .inl (2, 2, .inl (fun _ => 0)), .inl (0, 4, .inl (fun _ => 0)), .inl (0, 486, .inl (fun _ => 0)), .inl (0, 9072, .inl (fun _ => 0)), .inl (0, 6, .inl (fun _ => 0)), .inl (1, 6, .inr (.inl (fun _ => 0)))]) (ov_up 0 (Nat.succ_pos _) rfl) ?_
  refine r_aload_n X 0 dX8_init_134 rfl ?_
  refine r_bipush X (nI 6) dX8_init_135 (by decide) ?_
  refine r_newj X A (by decide) (Or.inr ⟨_, ov_isV (d := b) 16 _ rfl⟩) (by decide) (by decide) dX8_init_137 ?_
  refine SW.heq (h2 := ov h b [.inr (8, [.ref (b + 1), .ref (b + 2), .ref (b + 3), .ref (b + 4), .int 0, .ref (b + 5), .int 0, .int 0, .int 0, .int 0, .int 0, .int 0, .int 0, .ref (b + 6), .ref (b + 7), .ref (b + 8), .ref (b + 9), .int 0, .ref (b + 10), .ref (b + 11), .ref (b + 12), .ref (b + 13), .ref (b + 14), .ref (b + 15), .int 0, .long 0, .int 0, .ref (b + 16), .null, .null, .int 0]), .inl (0, 8, .inl (fun _ => 0)), .inl (0, 8, .inl (fun _ => 0)), .inl (0, 320, .inl (fun _ => 0)), .inl (0, 40, .inl (fun _ => 0)), .inl (0, 120, .inl (fun _ => 0)), .inl (0, 41, .inl (fun _ => 0)), .inl (0, 41, .inl (fun _ => 0)), .inl (0, 41, .inl (fun _ => 0)), .inl (0, 656, .inl (fun _ => 0)), .inl (0, 82, .inl (fun _ => 0)), .inl (2, 2, .inl (fun _ => 0)), .inl (0, 4, .inl (fun _ => 0)), .inl (0, 486, .inl (fun _ => 0)), .inl (0, 9072, .inl (fun _ => 0)), .inl (0, 6, .inl (fun _ => 0)), .inl (1, 6, .inr (.inl (fun _ => 0))), .inl (1, 6, .inr (.inl (fun _ => 0)))]) (ov_app rfl rfl) ?_
  have X := mCx.g1 (k := 6) X A (by decide) (by decide)
  have Y := mEndC.g1 (k := 6) Y A
  have J := mIn.g1 (k := 6) J
  have A := mAl.g1 (k := 6) A
  refine r_putF X J (ref := RX8) inG8 tyX8 tyX8_ok nmX8 rfl 28 (by decide) (wG 1023 (by decide +kernel) (by decide +kernel)) rfl rfl rfl rfl rfl dX8_init_139 (ov_isV (d := b) 0 _ rfl) (Nat.le_of_ble_eq_true rfl) ?_
  refine SW.heq (h2 := ov h b [.inr (8, [.ref (b + 1), .ref (b + 2), .ref (b + 3), .ref (b + 4), .int 0, .ref (b + 5), .int 0, .int 0, .int 0, .int 0, .int 0, .int 0, .int 0, .ref (b + 6), .ref (b + 7), .ref (b + 8), .ref (b + 9), .int 0, .ref (b + 10), .ref (b + 11), .ref (b + 12), .ref (b + 13), .ref (b + 14), .ref (b + 15), .int 0, .long 0, .int 0, .ref (b + 16), .ref (b + 17), .null, .int 0]), .inl (0, 8, .inl (fun _ => 0)), .inl (0, 8, .inl (fun _ => 0)), .inl (0, 320, .inl (fun _ => 0)), .inl (0, 40, .inl (fun _ => 0)), .inl (0, 120, .inl (fun _ => 0)), .inl (0, 41, .inl (fun _ => 0)), .inl (0, 41, .inl (fun _ => 0)), .inl (0, 41, .inl (fun _ => 0)), .inl (0, 656, .inl (fun _ => 0)), .inl (0, 82, .inl (fun _ => 0)), .inl (2, 2, .inl (fun _ => 0)), .inl (0, 4, .inl (fun _ => 0)), .inl (0, 486, .inl (fun _ => 0)), .inl (0, 9072, .inl (fun _ => 0)), .inl (0, 6, .inl (fun _ => 0)), .inl (1, 6, .inr (.inl (fun _ => 0))), .inl (1, 6, .inr (.inl (fun _ => 0)))]) (ov_up 0 (Nat.succ_pos _) rfl) ?_
  refine r_aload_n X 0 dX8_init_142 rfl ?_
  refine r_bipush X (nI 16) dX8_init_143 (by decide) ?_
  refine r_newi X A (by decide) (Or.inr ⟨_, ov_isV (d := b) 17 _ rfl⟩) (by decide) (by decide) dX8_init_145 ?_
  refine SW.heq (h2 := ov h b [.inr (8, [.ref (b + 1), .ref (b + 2), .ref (b + 3), .ref (b + 4), .int 0, .ref (b + 5), .int 0, .int 0, .int 0, .int 0, .int 0, .int 0, .int 0, .ref (b + 6), .ref (b + 7), .ref (b + 8), .ref (b + 9), .int 0, .ref (b + 10), .ref (b + 11), .ref (b + 12), .ref (b + 13), .ref (b + 14), .ref (b + 15), .int 0, .long 0, .int 0, .ref (b + 16), .ref (b + 17), .null, .int 0]), .inl (0, 8, .inl (fun _ => 0)), .inl (0, 8, .inl (fun _ => 0)), .inl (0, 320, .inl (fun _ => 0)), .inl (0, 40, .inl (fun _ => 0)), .inl (0, 120, .inl (fun _ => 0)), .inl (0, 41, .inl (fun _ => 0)), .inl (0, 41, .inl (fun _ => 0)), .inl (0, 41, .inl (fun _ => 0)), .inl (0, 656, .inl (fun _ => 0)), .inl (0, 82, .inl (fun _ => 0)), .inl (2, 2, .inl (fun _ => 0)), .inl (0, 4, .inl (fun _ => 0)), .inl (0, 486, .inl (fun _ => 0)), .inl (0, 9072, .inl (fun _ => 0)), .inl (0, 6, .inl (fun _ => 0)), .inl (1, 6, .inr (.inl (fun _ => 0))), .inl (1, 6, .inr (.inl (fun _ => 0))), .inl (0, 16, .inl (fun _ => 0))]) (ov_app rfl rfl) ?_
  have X := mCx.g1 (k := 16) X A (by decide) (by decide)
  have Y := mEndC.g1 (k := 16) Y A
  have J := mIn.g1 (k := 16) J
  have A := mAl.g1 (k := 16) A
  refine r_putF X J (ref := RX8) inG8 tyX8 tyX8_ok nmX8 rfl 29 (by decide) (wG 1024 (by decide +kernel) (by decide +kernel)) rfl rfl rfl rfl rfl dX8_init_147 (ov_isV (d := b) 0 _ rfl) (Nat.le_of_ble_eq_true rfl) ?_
  refine SW.heq (h2 := ov h b [.inr (8, [.ref (b + 1), .ref (b + 2), .ref (b + 3), .ref (b + 4), .int 0, .ref (b + 5), .int 0, .int 0, .int 0, .int 0, .int 0, .int 0, .int 0, .ref (b + 6), .ref (b + 7), .ref (b + 8), .ref (b + 9), .int 0, .ref (b + 10), .ref (b + 11), .ref (b + 12), .ref (b + 13), .ref (b + 14), .ref (b + 15), .int 0, .long 0, .int 0, .ref (b + 16), .ref (b + 17), .ref (b + 18), .int 0]), .inl (0, 8, .inl (fun _ => 0)), .inl (0, 8, .inl (fun _ => 0)), .inl (0, 320, .inl (fun _ => 0)), .inl (0, 40, .inl (fun _ => 0)), .inl (0, 120, .inl (fun _ => 0)), .inl (0, 41, .inl (fun _ => 0)), .inl (0, 41, .inl (fun _ => 0)), .inl (0, 41, .inl (fun _ => 0)), .inl (0, 656, .inl (fun _ => 0)), .inl (0, 82, .inl (fun _ => 0)), .inl (2, 2, .inl (fun _ => 0)), .inl (0, 4, .inl (fun _ => 0)), .inl (0, 486, .inl (fun _ => 0)), .inl (0, 9072, .inl (fun _ => 0)), .inl (0, 6, .inl (fun _ => 0)), .inl (1, 6, .inr (.inl (fun _ => 0))), .inl (1, 6, .inr (.inl (fun _ => 0))), .inl (0, 16, .inl (fun _ => 0))]) (ov_up 0 (Nat.succ_pos _) rfl) ?_
  refine r_iconst X (nI 0) dX8_init_150 (by decide) ?_
  refine r_istore_n [(0, .ref b), (1, .int (nI 0))] X dX8_init_151 rfl (by decide) rfl ?_
  refine SW.heq (h2 := ov h b [.inr (8, [.ref (b + 1), .ref (b + 2), .ref (b + 3), .ref (b + 4), .int 0, .ref (b + 5), .int 0, .int 0, .int 0, .int 0, .int 0, .int 0, .int 0, .ref (b + 6), .ref (b + 7), .ref (b + 8), .ref (b + 9), .int 0, .ref (b + 10), .ref (b + 11), .ref (b + 12), .ref (b + 13), .ref (b + 14), .ref (b + 15), .int 0, .long 0, .int 0, .ref (b + 16), .ref (b + 17), .ref (b + 18), .int 0]), .inl (0, 8, .inl (lnF 0)), .inl (0, 8, .inl (fun _ => 0)), .inl (0, 320, .inl (fun _ => 0)), .inl (0, 40, .inl (fun _ => 0)), .inl (0, 120, .inl (fun _ => 0)), .inl (0, 41, .inl (fun _ => 0)), .inl (0, 41, .inl (fun _ => 0)), .inl (0, 41, .inl (fun _ => 0)), .inl (0, 656, .inl (fun _ => 0)), .inl (0, 82, .inl (fun _ => 0)), .inl (2, 2, .inl (fun _ => 0)), .inl (0, 4, .inl (fun _ => 0)), .inl (0, 486, .inl (fun _ => 0)), .inl (0, 9072, .inl (fun _ => 0)), .inl (0, 6, .inl (fun _ => 0)), .inl (1, 6, .inr (.inl (fun _ => 0))), .inl (1, 6, .inr (.inl (fun _ => 0))), .inl (0, 16, .inl (fun _ => 0))]) rfl ?_
  refine r_iload_n X 1 dX8_init_152 rfl ?_
  refine r_bipush X (nI 8) dX8_init_153 (by decide) ?_
  refine r_icmp_ge X 172 dX8_init_155 rfl (fun c => absurd (by decide) c) (fun _ => ?_)
  refine r_aload_n X 0 dX8_init_158 rfl ?_
  refine gf_X8_7 X dX8_init_159 (ov_isV (d := b) 0 _ rfl) rfl ?_
  refine r_iload_n X 1 dX8_init_162 rfl ?_
  refine r_ldc X dX8_init_163 kk_X8_66 ?_
  refine r_iastn X (k0 := 0) dX8_init_165 (ov_isV (d := b) 1 _ rfl) (by decide) (by decide) ?_
  refine SW.heq (h2 := ov h b [.inr (8, [.ref (b + 1), .ref (b + 2), .ref (b + 3), .ref (b + 4), .int 0, .ref (b + 5), .int 0, .int 0, .int 0, .int 0, .int 0, .int 0, .int 0, .ref (b + 6), .ref (b + 7), .ref (b + 8), .ref (b + 9), .int 0, .ref (b + 10), .ref (b + 11), .ref (b + 12), .ref (b + 13), .ref (b + 14), .ref (b + 15), .int 0, .long 0, .int 0, .ref (b + 16), .ref (b + 17), .ref (b + 18), .int 0]), .inl (0, 8, .inl (lnF 1)), .inl (0, 8, .inl (fun _ => 0)), .inl (0, 320, .inl (fun _ => 0)), .inl (0, 40, .inl (fun _ => 0)), .inl (0, 120, .inl (fun _ => 0)), .inl (0, 41, .inl (fun _ => 0)), .inl (0, 41, .inl (fun _ => 0)), .inl (0, 41, .inl (fun _ => 0)), .inl (0, 656, .inl (fun _ => 0)), .inl (0, 82, .inl (fun _ => 0)), .inl (2, 2, .inl (fun _ => 0)), .inl (0, 4, .inl (fun _ => 0)), .inl (0, 486, .inl (fun _ => 0)), .inl (0, 9072, .inl (fun _ => 0)), .inl (0, 6, .inl (fun _ => 0)), .inl (1, 6, .inr (.inl (fun _ => 0))), .inl (1, 6, .inr (.inl (fun _ => 0))), .inl (0, 16, .inl (fun _ => 0))]) (ov_up 1 (Nat.le_of_ble_eq_true rfl) rfl) ?_
  refine r_iinc [(0, .ref b), (1, .int (nI 1))] X (nI 1) 1 dX8_init_166 rfl (by decide) (by decide) rfl ?_
  refine r_goto X 152 dX8_init_169 rfl ?_
  refine r_iload_n X 1 dX8_init_152 rfl ?_
  refine r_bipush X (nI 8) dX8_init_153 (by decide) ?_
  refine r_icmp_ge X 172 dX8_init_155 rfl (fun c => absurd (by decide) c) (fun _ => ?_)
  refine r_aload_n X 0 dX8_init_158 rfl ?_
  refine gf_X8_7 X dX8_init_159 (ov_isV (d := b) 0 _ rfl) rfl ?_
  refine r_iload_n X 1 dX8_init_162 rfl ?_
  refine r_ldc X dX8_init_163 kk_X8_66 ?_
  refine r_iastn X (k0 := 1) dX8_init_165 (ov_isV (d := b) 1 _ rfl) (by decide) (by decide) ?_
  refine SW.heq (h2 := ov h b [.inr (8, [.ref (b + 1), .ref (b + 2), .ref (b + 3), .ref (b + 4), .int 0, .ref (b + 5), .int 0, .int 0, .int 0, .int 0, .int 0, .int 0, .int 0, .ref (b + 6), .ref (b + 7), .ref (b + 8), .ref (b + 9), .int 0, .ref (b + 10), .ref (b + 11), .ref (b + 12), .ref (b + 13), .ref (b + 14), .ref (b + 15), .int 0, .long 0, .int 0, .ref (b + 16), .ref (b + 17), .ref (b + 18), .int 0]), .inl (0, 8, .inl (lnF 2)), .inl (0, 8, .inl (fun _ => 0)), .inl (0, 320, .inl (fun _ => 0)), .inl (0, 40, .inl (fun _ => 0)), .inl (0, 120, .inl (fun _ => 0)), .inl (0, 41, .inl (fun _ => 0)), .inl (0, 41, .inl (fun _ => 0)), .inl (0, 41, .inl (fun _ => 0)), .inl (0, 656, .inl (fun _ => 0)), .inl (0, 82, .inl (fun _ => 0)), .inl (2, 2, .inl (fun _ => 0)), .inl (0, 4, .inl (fun _ => 0)), .inl (0, 486, .inl (fun _ => 0)), .inl (0, 9072, .inl (fun _ => 0)), .inl (0, 6, .inl (fun _ => 0)), .inl (1, 6, .inr (.inl (fun _ => 0))), .inl (1, 6, .inr (.inl (fun _ => 0))), .inl (0, 16, .inl (fun _ => 0))]) (ov_up 1 (Nat.le_of_ble_eq_true rfl) rfl) ?_
  refine r_iinc [(0, .ref b), (1, .int (nI 2))] X (nI 2) 1 dX8_init_166 rfl (by decide) (by decide) rfl ?_
  refine r_goto X 152 dX8_init_169 rfl ?_
  refine r_iload_n X 1 dX8_init_152 rfl ?_
  refine r_bipush X (nI 8) dX8_init_153 (by decide) ?_
  refine r_icmp_ge X 172 dX8_init_155 rfl (fun c => absurd (by decide) c) (fun _ => ?_)
  refine r_aload_n X 0 dX8_init_158 rfl ?_
  refine gf_X8_7 X dX8_init_159 (ov_isV (d := b) 0 _ rfl) rfl ?_
  refine r_iload_n X 1 dX8_init_162 rfl ?_
  refine r_ldc X dX8_init_163 kk_X8_66 ?_
  refine r_iastn X (k0 := 2) dX8_init_165 (ov_isV (d := b) 1 _ rfl) (by decide) (by decide) ?_
  refine SW.heq (h2 := ov h b [.inr (8, [.ref (b + 1), .ref (b + 2), .ref (b + 3), .ref (b + 4), .int 0, .ref (b + 5), .int 0, .int 0, .int 0, .int 0, .int 0, .int 0, .int 0, .ref (b + 6), .ref (b + 7), .ref (b + 8), .ref (b + 9), .int 0, .ref (b + 10), .ref (b + 11), .ref (b + 12), .ref (b + 13), .ref (b + 14), .ref (b + 15), .int 0, .long 0, .int 0, .ref (b + 16), .ref (b + 17), .ref (b + 18), .int 0]), .inl (0, 8, .inl (lnF 3)), .inl (0, 8, .inl (fun _ => 0)), .inl (0, 320, .inl (fun _ => 0)), .inl (0, 40, .inl (fun _ => 0)), .inl (0, 120, .inl (fun _ => 0)), .inl (0, 41, .inl (fun _ => 0)), .inl (0, 41, .inl (fun _ => 0)), .inl (0, 41, .inl (fun _ => 0)), .inl (0, 656, .inl (fun _ => 0)), .inl (0, 82, .inl (fun _ => 0)), .inl (2, 2, .inl (fun _ => 0)), .inl (0, 4, .inl (fun _ => 0)), .inl (0, 486, .inl (fun _ => 0)), .inl (0, 9072, .inl (fun _ => 0)), .inl (0, 6, .inl (fun _ => 0)), .inl (1, 6, .inr (.inl (fun _ => 0))), .inl (1, 6, .inr (.inl (fun _ => 0))), .inl (0, 16, .inl (fun _ => 0))]) (ov_up 1 (Nat.le_of_ble_eq_true rfl) rfl) ?_
  refine r_iinc [(0, .ref b), (1, .int (nI 3))] X (nI 3) 1 dX8_init_166 rfl (by decide) (by decide) rfl ?_
  refine r_goto X 152 dX8_init_169 rfl ?_
  refine r_iload_n X 1 dX8_init_152 rfl ?_
  refine r_bipush X (nI 8) dX8_init_153 (by decide) ?_
  refine r_icmp_ge X 172 dX8_init_155 rfl (fun c => absurd (by decide) c) (fun _ => ?_)
  refine r_aload_n X 0 dX8_init_158 rfl ?_
  refine gf_X8_7 X dX8_init_159 (ov_isV (d := b) 0 _ rfl) rfl ?_
  refine r_iload_n X 1 dX8_init_162 rfl ?_
  refine r_ldc X dX8_init_163 kk_X8_66 ?_
  refine r_iastn X (k0 := 3) dX8_init_165 (ov_isV (d := b) 1 _ rfl) (by decide) (by decide) ?_
  refine SW.heq (h2 := ov h b [.inr (8, [.ref (b + 1), .ref (b + 2), .ref (b + 3), .ref (b + 4), .int 0, .ref (b + 5), .int 0, .int 0, .int 0, .int 0, .int 0, .int 0, .int 0, .ref (b + 6), .ref (b + 7), .ref (b + 8), .ref (b + 9), .int 0, .ref (b + 10), .ref (b + 11), .ref (b + 12), .ref (b + 13), .ref (b + 14), .ref (b + 15), .int 0, .long 0, .int 0, .ref (b + 16), .ref (b + 17), .ref (b + 18), .int 0]), .inl (0, 8, .inl (lnF 4)), .inl (0, 8, .inl (fun _ => 0)), .inl (0, 320, .inl (fun _ => 0)), .inl (0, 40, .inl (fun _ => 0)), .inl (0, 120, .inl (fun _ => 0)), .inl (0, 41, .inl (fun _ => 0)), .inl (0, 41, .inl (fun _ => 0)), .inl (0, 41, .inl (fun _ => 0)), .inl (0, 656, .inl (fun _ => 0)), .inl (0, 82, .inl (fun _ => 0)), .inl (2, 2, .inl (fun _ => 0)), .inl (0, 4, .inl (fun _ => 0)), .inl (0, 486, .inl (fun _ => 0)), .inl (0, 9072, .inl (fun _ => 0)), .inl (0, 6, .inl (fun _ => 0)), .inl (1, 6, .inr (.inl (fun _ => 0))), .inl (1, 6, .inr (.inl (fun _ => 0))), .inl (0, 16, .inl (fun _ => 0))]) (ov_up 1 (Nat.le_of_ble_eq_true rfl) rfl) ?_
  refine r_iinc [(0, .ref b), (1, .int (nI 4))] X (nI 4) 1 dX8_init_166 rfl (by decide) (by decide) rfl ?_
  refine r_goto X 152 dX8_init_169 rfl ?_
  refine r_iload_n X 1 dX8_init_152 rfl ?_
  refine r_bipush X (nI 8) dX8_init_153 (by decide) ?_
  refine r_icmp_ge X 172 dX8_init_155 rfl (fun c => absurd (by decide) c) (fun _ => ?_)
  refine r_aload_n X 0 dX8_init_158 rfl ?_
  refine gf_X8_7 X dX8_init_159 (ov_isV (d := b) 0 _ rfl) rfl ?_
  refine r_iload_n X 1 dX8_init_162 rfl ?_
  refine r_ldc X dX8_init_163 kk_X8_66 ?_
  refine r_iastn X (k0 := 4) dX8_init_165 (ov_isV (d := b) 1 _ rfl) (by decide) (by decide) ?_
  refine SW.heq (h2 := ov h b [.inr (8, [.ref (b + 1), .ref (b + 2), .ref (b + 3), .ref (b + 4), .int 0, .ref (b + 5), .int 0, .int 0, .int 0, .int 0, .int 0, .int 0, .int 0, .ref (b + 6), .ref (b + 7), .ref (b + 8), .ref (b + 9), .int 0, .ref (b + 10), .ref (b + 11), .ref (b + 12), .ref (b + 13), .ref (b + 14), .ref (b + 15), .int 0, .long 0, .int 0, .ref (b + 16), .ref (b + 17), .ref (b + 18), .int 0]), .inl (0, 8, .inl (lnF 5)), .inl (0, 8, .inl (fun _ => 0)), .inl (0, 320, .inl (fun _ => 0)), .inl (0, 40, .inl (fun _ => 0)), .inl (0, 120, .inl (fun _ => 0)), .inl (0, 41, .inl (fun _ => 0)), .inl (0, 41, .inl (fun _ => 0)), .inl (0, 41, .inl (fun _ => 0)), .inl (0, 656, .inl (fun _ => 0)), .inl (0, 82, .inl (fun _ => 0)), .inl (2, 2, .inl (fun _ => 0)), .inl (0, 4, .inl (fun _ => 0)), .inl (0, 486, .inl (fun _ => 0)), .inl (0, 9072, .inl (fun _ => 0)), .inl (0, 6, .inl (fun _ => 0)), .inl (1, 6, .inr (.inl (fun _ => 0))), .inl (1, 6, .inr (.inl (fun _ => 0))), .inl (0, 16, .inl (fun _ => 0))]) (ov_up 1 (Nat.le_of_ble_eq_true rfl) rfl) ?_
  refine r_iinc [(0, .ref b), (1, .int (nI 5))] X (nI 5) 1 dX8_init_166 rfl (by decide) (by decide) rfl ?_
  refine r_goto X 152 dX8_init_169 rfl ?_
  refine r_iload_n X 1 dX8_init_152 rfl ?_
  refine r_bipush X (nI 8) dX8_init_153 (by decide) ?_
  refine r_icmp_ge X 172 dX8_init_155 rfl (fun c => absurd (by decide) c) (fun _ => ?_)
  refine r_aload_n X 0 dX8_init_158 rfl ?_
  refine gf_X8_7 X dX8_init_159 (ov_isV (d := b) 0 _ rfl) rfl ?_
  refine r_iload_n X 1 dX8_init_162 rfl ?_
  refine r_ldc X dX8_init_163 kk_X8_66 ?_
  refine r_iastn X (k0 := 5) dX8_init_165 (ov_isV (d := b) 1 _ rfl) (by decide) (by decide) ?_
  refine SW.heq (h2 := ov h b [.inr (8, [.ref (b + 1), .ref (b + 2), .ref (b + 3), .ref (b + 4), .int 0, .ref (b + 5), .int 0, .int 0, .int 0, .int 0, .int 0, .int 0, .int 0, .ref (b + 6), .ref (b + 7), .ref (b + 8), .ref (b + 9), .int 0, .ref (b + 10), .ref (b + 11), .ref (b + 12), .ref (b + 13), .ref (b + 14), .ref (b + 15), .int 0, .long 0, .int 0, .ref (b + 16), .ref (b + 17), .ref (b + 18), .int 0]), .inl (0, 8, .inl (lnF 6)), .inl (0, 8, .inl (fun _ => 0)), .inl (0, 320, .inl (fun _ => 0)), .inl (0, 40, .inl (fun _ => 0)), .inl (0, 120, .inl (fun _ => 0)), .inl (0, 41, .inl (fun _ => 0)), .inl (0, 41, .inl (fun _ => 0)), .inl (0, 41, .inl (fun _ => 0)), .inl (0, 656, .inl (fun _ => 0)), .inl (0, 82, .inl (fun _ => 0)), .inl (2, 2, .inl (fun _ => 0)), .inl (0, 4, .inl (fun _ => 0)), .inl (0, 486, .inl (fun _ => 0)), .inl (0, 9072, .inl (fun _ => 0)), .inl (0, 6, .inl (fun _ => 0)), .inl (1, 6, .inr (.inl (fun _ => 0))), .inl (1, 6, .inr (.inl (fun _ => 0))), .inl (0, 16, .inl (fun _ => 0))]) (ov_up 1 (Nat.le_of_ble_eq_true rfl) rfl) ?_
  refine r_iinc [(0, .ref b), (1, .int (nI 6))] X (nI 6) 1 dX8_init_166 rfl (by decide) (by decide) rfl ?_
  refine r_goto X 152 dX8_init_169 rfl ?_
  refine r_iload_n X 1 dX8_init_152 rfl ?_
  refine r_bipush X (nI 8) dX8_init_153 (by decide) ?_
  refine r_icmp_ge X 172 dX8_init_155 rfl (fun c => absurd (by decide) c) (fun _ => ?_)
  refine r_aload_n X 0 dX8_init_158 rfl ?_
  refine gf_X8_7 X dX8_init_159 (ov_isV (d := b) 0 _ rfl) rfl ?_
  refine r_iload_n X 1 dX8_init_162 rfl ?_
  refine r_ldc X dX8_init_163 kk_X8_66 ?_
  refine r_iastn X (k0 := 6) dX8_init_165 (ov_isV (d := b) 1 _ rfl) (by decide) (by decide) ?_
  refine SW.heq (h2 := ov h b [.inr (8, [.ref (b + 1), .ref (b + 2), .ref (b + 3), .ref (b + 4), .int 0, .ref (b + 5), .int 0, .int 0, .int 0, .int 0, .int 0, .int 0, .int 0, .ref (b + 6), .ref (b + 7), .ref (b + 8), .ref (b + 9), .int 0, .ref (b + 10), .ref (b + 11), .ref (b + 12), .ref (b + 13), .ref (b + 14), .ref (b + 15), .int 0, .long 0, .int 0, .ref (b + 16), .ref (b + 17), .ref (b + 18), .int 0]), .inl (0, 8, .inl (lnF 7)), .inl (0, 8, .inl (fun _ => 0)), .inl (0, 320, .inl (fun _ => 0)), .inl (0, 40, .inl (fun _ => 0)), .inl (0, 120, .inl (fun _ => 0)), .inl (0, 41, .inl (fun _ => 0)), .inl (0, 41, .inl (fun _ => 0)), .inl (0, 41, .inl (fun _ => 0)), .inl (0, 656, .inl (fun _ => 0)), .inl (0, 82, .inl (fun _ => 0)), .inl (2, 2, .inl (fun _ => 0)), .inl (0, 4, .inl (fun _ => 0)), .inl (0, 486, .inl (fun _ => 0)), .inl (0, 9072, .inl (fun _ => 0)), .inl (0, 6, .inl (fun _ => 0)), .inl (1, 6, .inr (.inl (fun _ => 0))), .inl (1, 6, .inr (.inl (fun _ => 0))), .inl (0, 16, .inl (fun _ => 0))]) (ov_up 1 (Nat.le_of_ble_eq_true rfl) rfl) ?_
  refine r_iinc [(0, .ref b), (1, .int (nI 7))] X (nI 7) 1 dX8_init_166 rfl (by decide) (by decide) rfl ?_
  refine r_goto X 152 dX8_init_169 rfl ?_
  refine r_iload_n X 1 dX8_init_152 rfl ?_
  refine r_bipush X (nI 8) dX8_init_153 (by decide) ?_
  refine r_icmp_ge X 172 dX8_init_155 rfl (fun c => absurd (by decide) c) (fun _ => ?_)
  refine r_aload_n X 0 dX8_init_158 rfl ?_
  refine gf_X8_7 X dX8_init_159 (ov_isV (d := b) 0 _ rfl) rfl ?_
  refine r_iload_n X 1 dX8_init_162 rfl ?_
  refine r_ldc X dX8_init_163 kk_X8_66 ?_
  refine r_iastn X (k0 := 7) dX8_init_165 (ov_isV (d := b) 1 _ rfl) (by decide) (by decide) ?_
  refine SW.heq (h2 := ov h b [.inr (8, [.ref (b + 1), .ref (b + 2), .ref (b + 3), .ref (b + 4), .int 0, .ref (b + 5), .int 0, .int 0, .int 0, .int 0, .int 0, .int 0, .int 0, .ref (b + 6), .ref (b + 7), .ref (b + 8), .ref (b + 9), .int 0, .ref (b + 10), .ref (b + 11), .ref (b + 12), .ref (b + 13), .ref (b + 14), .ref (b + 15), .int 0, .long 0, .int 0, .ref (b + 16), .ref (b + 17), .ref (b + 18), .int 0]), .inl (0, 8, .inl (lnF 8)), .inl (0, 8, .inl (fun _ => 0)), .inl (0, 320, .inl (fun _ => 0)), .inl (0, 40, .inl (fun _ => 0)), .inl (0, 120, .inl (fun _ => 0)), .inl (0, 41, .inl (fun _ => 0)), .inl (0, 41, .inl (fun _ => 0)), .inl (0, 41, .inl (fun _ => 0)), .inl (0, 656, .inl (fun _ => 0)), .inl (0, 82, .inl (fun _ => 0)), .inl (2, 2, .inl (fun _ => 0)), .inl (0, 4, .inl (fun _ => 0)), .inl (0, 486, .inl (fun _ => 0)), .inl (0, 9072, .inl (fun _ => 0)), .inl (0, 6, .inl (fun _ => 0)), .inl (1, 6, .inr (.inl (fun _ => 0))), .inl (1, 6, .inr (.inl (fun _ => 0))), .inl (0, 16, .inl (fun _ => 0))]) (ov_up 1 (Nat.le_of_ble_eq_true rfl) rfl) ?_
  refine r_iinc [(0, .ref b), (1, .int (nI 8))] X (nI 8) 1 dX8_init_166 rfl (by decide) (by decide) rfl ?_
  refine r_goto X 152 dX8_init_169 rfl ?_
  refine r_iload_n X 1 dX8_init_152 rfl ?_
  refine r_bipush X (nI 8) dX8_init_153 (by decide) ?_
  refine r_icmp_ge X 172 dX8_init_155 rfl (fun _ => ?_) (fun c => absurd c (by decide))
  refine SW.sub [(0, .ref b), (1, .int (nI 8))] (fun q hq => hq) ?_
  exact r_return X (mEndC.fin Y A) dX8_init_172 rfl rfl
