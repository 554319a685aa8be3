theorem va_one {h : mHp} {a : Nat} {c : mC} : va_up h a (some c) = ov h a [c] := by
  rw [← ov_cons, ov_nil]
theorem acH_va {h : mHp} {c : Nat} {e : Option mC} : ∀ k, acH (va_up h c e) c k = acH h c k
  | 0 => ov_va
  | k + 1 => by
    show ov (ov (acH (va_up h c e) c k) _ _) c _ = ov (ov (acH h c k) _ _) c _
    rw [acH_va k]
theorem acH_cm {h : mHp} {c x : Nat} {K : List mC} (hx : x + K.length ≤ c) : ∀ k, acH (ov h x K) c k = ov (acH h c k) x K
  | 0 => ov_comm (Or.inl hx)
  | k + 1 => by
    show ov (ov (acH (ov h x K) c k) _ _) c _ = ov (ov (ov (acH h c k) _ _) c _) x K
    rw [acH_cm hx k]
    exact (congrArg (fun E => ov E c (acL c (k + 1))) (ov_comm (d := x) (e := c + (2 + 14 * k)) (Or.inl (by omega)))).trans (ov_comm (Or.inl hx))
theorem acZ_new {h : mHp} {c x : Nat} {e : Option mC} {K : List mC} (hx : x + K.length ≤ c) : acZ (va_up (ov h x K) c e) c = ov (acZ h c) x K := by
  unfold acZ
  rw [acH_va, acH_cm hx]
  exact ov_comm (Or.inl hx)
theorem acH_out {h : mHp} {c e : Nat} {K : List mC} : ∀ k, (e + K.length ≤ c ∨ c + (2 + 14 * k) ≤ e) → isV h e K → isV (acH h c k) e K
  | 0, hd, q => isV_ov (hd.elim Or.inl (fun z => Or.inr (by show c + 2 ≤ e; omega))) q
  | k + 1, hd, q => by
    refine isV_ov (hd.elim Or.inl (fun z => Or.inr (by show c + 2 ≤ e; omega))) (isV_ov (hd.elim (fun z => Or.inl (by omega)) (fun z => Or.inr (by show c + (2 + 14 * k) + 14 ≤ e; omega))) (acH_out k (hd.elim Or.inl (fun z => Or.inr (by omega))) q))
theorem acZ_out {h : mHp} {c e : Nat} {K : List mC} (hd : e + K.length ≤ c ∨ c + 226 ≤ e) (q : isV h e K) : isV (acZ h c) e K := isV_ov (hd.elim Or.inl (fun z => Or.inr (by show c + 2 ≤ e; omega))) (acH_out 16 (hd.elim Or.inl (fun z => Or.inr (by omega))) q)
theorem acH_day {h : mHp} {c k : Nat} : ∀ n, k < n → isV (acH h c n) (c + (2 + 14 * k)) (dayZ (c + (2 + 14 * k))) := by
  intro n
  induction n with
  | zero => intro hk; exact absurd hk (Nat.not_lt_zero _)
  | succ n ih =>
    intro hk
    refine isV_ov (Or.inr (by show c + 2 ≤ _; omega)) ?_
    by_cases e : k = n
    · subst e; exact ov_isV
    · exact isV_ov (Or.inl (by show c + (2 + 14 * k) + 14 ≤ _; omega)) (ih (by omega))
theorem acZ_day {h : mHp} {c k : Nat} (hk : k < 16) : isV (acZ h c) (c + (2 + 14 * k)) (dayZ (c + (2 + 14 * k))) := isV_ov (Or.inr (by show c + 2 ≤ _; omega)) (acH_day 16 hk)
theorem acZ_e {h : mHp} {c : Nat} : ∃ e, acZ h c (c + 225) = some e := ⟨_, acZ_day (h := h) (c := c) (k := 15) (by decide) 13 _ rfl⟩
def siz0 : Nat → Int32 := f_fillI 8 (fun _ => 0) (-1)
def uA1 (h : mHp) (x : Nat) : mHp := ov h (x + 1) (rowL (x + 1) (fun _ _ => 0) (fun _ => 0) siz0)
def uA2 (h : mHp) (x : Nat) : mHp := ov (uA1 h x) (x + 13) (tapL (x + 13) (fun _ => 0) 0 0 0)
def uA3 (h : mHp) (x : Nat) : mHp := ov (uA2 h x) (x + 15) (dayZ (x + 15))
def uA4 (h : mHp) (x : Nat) : mHp := ov (uA3 h x) (x + 29) (dayZ (x + 29))
def uB1 (h : mHp) (x : Nat) : mHp := ov (uA4 h x) (x + 44) (dayZ (x + 44))
def uB2 (h : mHp) (x : Nat) : mHp := ov (uB1 h x) (x + 58) (dayZ (x + 58))
def uA5 (h : mHp) (x : Nat) : mHp := ov (uB2 h x) (x + 43) (imgL (x + 43))
def uA6 (h : mHp) (x : Nat) : mHp := acZ (uA5 h x) (x + 72)
def uA7 (h : mHp) (x : Nat) : mHp := ov (uA6 h x) (x + 298) (seZ (x + 298) (lyA dOn 81) (lyA dSt 81))
def uA8 (h : mHp) (x : Nat) : mHp := ov (uA7 h x) (x + 319) (lonL (x + 319) (fun _ => 0) (fun _ => 0) (fun _ => 0) 0 0)
def uA9 (h : mHp) (x : Nat) : mHp := ov (uA8 h x) (x + 323) (askL (x + 323) (fun _ => 0) 0 0 0 0 0)
def uhZ (h : mHp) (x : Nat) : mHp := ov (uA9 h x) x (uhL x 0 0 0 0)
set_option maxRecDepth 20000 in
set_option maxHeartbeats 8000000 in
theorem c_init7 {G : mG} {h : mHp} {x : Nat} (he : h x = some (.inr (7, [.null, .null, .null, .null, .null, .null, .null, .null, .null, .int 0, .int 0, .long 0, .int 0]))) : RetC G 3 324 7582 (x + 1) mX7_init [.ref x] h none (uhZ h x) := by
  refine RetC.ofI [(0, .ref x)] (by decide) rfl (Nat.le_of_ble_eq_true rfl) rfl ?_
  rintro Z rfl X A Y J O
  refine SW.heq (h2 := ov h x [.inr (7, [.null, .null, .null, .null, .null, .null, .null, .null, .null, .int 0, .int 0, .long 0, .int 0])]) (ov_self (fun j c hj => by cases j with | zero => exact (Option.some.inj hj) ▸ he | succ j => cases hj)).symm ?_
  refine r_aload_n X 0 dX7_init_0 rfl ?_
  refine r_obj X (by decide) (wG 99 (by decide +kernel) (by decide +kernel)) wOi wOc (Nat.zero_le _) dX7_init_1 ?_
  refine r_aload_n X 0 dX7_init_4 rfl ?_
  refine r_newo X A tyX4 tyX4_ok (ci := 4) (fs := [.null, .null, .null]) rfl inG4 (wG 102 (by decide +kernel) (by decide +kernel)) (wG 103 (by decide +kernel) (by decide +kernel)) kn_RX4 (by decide) (Or.inl rfl) (by decide) (by decide) dX7_init_5 ?_
  have X := mCx.g1 (k := 3) X A (by decide) (by decide)
  have Y : mEndC _ (x + 1) 324 7582 1 none none _ := mEndC.g1 (k := 3) Y A
  have J := mIn.g1 (k := 3) J
  have O := mCo.g1 (k := 3) O
  have A : mAl _ (x + 1) 324 7582 1 3 := mAl.g1 (k := 3) A
  refine r_dup X dX7_init_8 rfl ?_
  have hd : (va_up (ov (h) x [.inr (7, [.null, .null, .null, .null, .null, .null, .null, .null, .null, .int 0, .int 0, .long 0, .int 0])]) (x + 1) (some (.inr (4, [.null, .null, .null])))) (x + 1) = some (.inr (4, [.null, .null, .null])) := vu_self
  refine r_invI X A O (k0 := 1) (kc := 11) (ks := 344) (As := []) (wG 104 (by decide +kernel) (by decide +kernel)) ki_X4_init kn_RX4 kc_X4_init rfl ⟨by decide, by decide, by decide⟩ (by decide) (by decide) dX7_init_9 rfl (Nat.le_of_ble_eq_true rfl) (Or.inr ⟨_, hd⟩) (by decide) (by decide) (c_init4 hd) ?_
  have X := mCx.gk (k := 11) (j := 344) X A (by decide) (by decide)
  have Y : mEndC _ (x + 1) 324 7582 12 none none _ := mEndC.gk (k := 11) (j := 344) Y A
  have J := mIn.gk (k := 11) (j := 344) J
  have O := mCo.gk (k := 11) (j := 344) O
  have A : mAl _ (x + 1) 324 7582 12 347 := mAl.gk (k := 11) (j := 344) A
  refine SW.heq (h2 := ov (uA1 h x) x [.inr (7, [.null, .null, .null, .null, .null, .null, .null, .null, .null, .int 0, .int 0, .long 0, .int 0])]) (ov_va.trans (ov_comm (Or.inl (show x + 1 ≤ x + 1 by omega)))) ?_
  clear hd
  refine r_putF X J (ref := RX7) inG7 tyX7 tyX7_ok nmX7 rfl 0 (by decide) (wG 370 (by decide +kernel) (by decide +kernel)) rfl rfl rfl rfl rfl dX7_init_12 (ov_isV (d := x) 0 _ rfl) (Nat.le_of_ble_eq_true rfl) ?_
  refine SW.heq (h2 := ov (uA1 h x) x [.inr (7, [.ref (x + 1), .null, .null, .null, .null, .null, .null, .null, .null, .int 0, .int 0, .long 0, .int 0])]) (ov_up 0 (Nat.succ_pos _) rfl) ?_
  refine r_aload_n X 0 dX7_init_15 rfl ?_
  refine r_newo X A tyX6 tyX6_ok (ci := 6) (fs := [.null, .int 0, .int 0, .int 0]) rfl inG6 (wG 126 (by decide +kernel) (by decide +kernel)) (wG 127 (by decide +kernel) (by decide +kernel)) kn_RX6 (by decide) (Or.inr ⟨_, isV_ov (d := x) (Or.inr (show x + 1 ≤ x + 1 by omega)) (ov_isV (d := x + 1)) 11 _ rfl⟩) (by decide) (by decide) dX7_init_16 ?_
  have X := mCx.g1 (k := 4) X A (by decide) (by decide)
  have Y : mEndC _ (x + 1) 324 7582 13 none none _ := mEndC.g1 (k := 4) Y A
  have J := mIn.g1 (k := 4) J
  have O := mCo.g1 (k := 4) O
  have A : mAl _ (x + 1) 324 7582 13 351 := mAl.g1 (k := 4) A
  refine r_dup X dX7_init_19 rfl ?_
  have hd : (va_up (ov (uA1 h x) x [.inr (7, [.ref (x + 1), .null, .null, .null, .null, .null, .null, .null, .null, .int 0, .int 0, .long 0, .int 0])]) (x + 13) (some (.inr (6, [.null, .int 0, .int 0, .int 0])))) (x + 13) = some (.inr (6, [.null, .int 0, .int 0, .int 0])) := vu_self
  refine r_invIN X A O (k0 := 1) (kc := 1) (ks := 120) (As := []) (host := "UnitHours") (wN 128 (by decide +kernel) (by decide +kernel)) ki_X6_init kn_RX6 kc_X6_init rfl ⟨by decide, by decide, by decide⟩ (by decide) (by decide) dX7_init_20 rfl (Nat.le_of_ble_eq_true rfl) (Or.inr ⟨_, hd⟩) (by decide) (by decide) (c_init6 hd) ?_
  have X := mCx.gk (k := 1) (j := 120) X A (by decide) (by decide)
  have Y : mEndC _ (x + 1) 324 7582 14 none none _ := mEndC.gk (k := 1) (j := 120) Y A
  have J := mIn.gk (k := 1) (j := 120) J
  have O := mCo.gk (k := 1) (j := 120) O
  have A : mAl _ (x + 1) 324 7582 14 471 := mAl.gk (k := 1) (j := 120) A
  refine SW.heq (h2 := ov (uA2 h x) x [.inr (7, [.ref (x + 1), .null, .null, .null, .null, .null, .null, .null, .null, .int 0, .int 0, .long 0, .int 0])]) (ov_va.trans (ov_comm (Or.inl (show x + 1 ≤ x + 13 by omega)))) ?_
  clear hd
  refine r_putF X J (ref := RX7) inG7 tyX7 tyX7_ok nmX7 rfl 1 (by decide) (wG 371 (by decide +kernel) (by decide +kernel)) rfl rfl rfl rfl rfl dX7_init_23 (ov_isV (d := x) 0 _ rfl) (Nat.le_of_ble_eq_true rfl) ?_
  refine SW.heq (h2 := ov (uA2 h x) x [.inr (7, [.ref (x + 1), .ref (x + 13), .null, .null, .null, .null, .null, .null, .null, .int 0, .int 0, .long 0, .int 0])]) (ov_up 0 (Nat.succ_pos _) rfl) ?_
  refine r_aload_n X 0 dX7_init_26 rfl ?_
  refine r_newo X A tyX2 tyX2_ok (ci := 2) (fs := [.int 0, .int 0, .int 0, .null, .null, .null, .null, .null, .null, .null, .null, .null, .null, .null, .null, .null]) rfl inG2 (wG 148 (by decide +kernel) (by decide +kernel)) (wG 149 (by decide +kernel) (by decide +kernel)) kn_RX2 (by decide) (Or.inr ⟨_, isV_ov (d := x) (Or.inr (show x + 1 ≤ x + 13 by omega)) (ov_isV (d := x + 13)) 1 _ rfl⟩) (by decide) (by decide) dX7_init_27 ?_
  have X := mCx.g1 (k := 16) X A (by decide) (by decide)
  have Y : mEndC _ (x + 1) 324 7582 15 none none _ := mEndC.g1 (k := 16) Y A
  have J := mIn.g1 (k := 16) J
  have O := mCo.g1 (k := 16) O
  have A : mAl _ (x + 1) 324 7582 15 487 := mAl.g1 (k := 16) A
  refine r_dup X dX7_init_30 rfl ?_
  have hd : (va_up (ov (uA2 h x) x [.inr (7, [.ref (x + 1), .ref (x + 13), .null, .null, .null, .null, .null, .null, .null, .int 0, .int 0, .long 0, .int 0])]) (x + 15) (some (.inr (2, [.int 0, .int 0, .int 0, .null, .null, .null, .null, .null, .null, .null, .null, .null, .null, .null, .null, .null])))) (x + 15) = some (.inr (2, [.int 0, .int 0, .int 0, .null, .null, .null, .null, .null, .null, .null, .null, .null, .null, .null, .null, .null])) := vu_self
  refine r_invIN X A O (k0 := 1) (kc := 13) (ks := 54) (As := []) (host := "UnitHours") (wN 150 (by decide +kernel) (by decide +kernel)) ki_X2_init kn_RX2 kc_X2_init rfl ⟨by decide, by decide, by decide⟩ (by decide) (by decide) dX7_init_31 rfl (Nat.le_of_ble_eq_true rfl) (Or.inr ⟨_, hd⟩) (by decide) (by decide) (c_init2 hd) ?_
  have X := mCx.gk (k := 13) (j := 54) X A (by decide) (by decide)
  have Y : mEndC _ (x + 1) 324 7582 28 none none _ := mEndC.gk (k := 13) (j := 54) Y A
  have J := mIn.gk (k := 13) (j := 54) J
  have O := mCo.gk (k := 13) (j := 54) O
  have A : mAl _ (x + 1) 324 7582 28 541 := mAl.gk (k := 13) (j := 54) A
  refine SW.heq (h2 := ov (uA3 h x) x [.inr (7, [.ref (x + 1), .ref (x + 13), .null, .null, .null, .null, .null, .null, .null, .int 0, .int 0, .long 0, .int 0])]) (ov_va.trans (ov_comm (Or.inl (show x + 1 ≤ x + 15 by omega)))) ?_
  clear hd
  refine r_putF X J (ref := RX7) inG7 tyX7 tyX7_ok nmX7 rfl 2 (by decide) (wG 372 (by decide +kernel) (by decide +kernel)) rfl rfl rfl rfl rfl dX7_init_34 (ov_isV (d := x) 0 _ rfl) (Nat.le_of_ble_eq_true rfl) ?_
  refine SW.heq (h2 := ov (uA3 h x) x [.inr (7, [.ref (x + 1), .ref (x + 13), .ref (x + 15), .null, .null, .null, .null, .null, .null, .int 0, .int 0, .long 0, .int 0])]) (ov_up 0 (Nat.succ_pos _) rfl) ?_
  refine r_aload_n X 0 dX7_init_37 rfl ?_
  refine r_newo X A tyX2 tyX2_ok (ci := 2) (fs := [.int 0, .int 0, .int 0, .null, .null, .null, .null, .null, .null, .null, .null, .null, .null, .null, .null, .null]) rfl inG2 (wG 148 (by decide +kernel) (by decide +kernel)) (wG 149 (by decide +kernel) (by decide +kernel)) kn_RX2 (by decide) (Or.inr ⟨_, isV_ov (d := x) (Or.inr (show x + 1 ≤ x + 15 by omega)) (ov_isV (d := x + 15)) 13 _ rfl⟩) (by decide) (by decide) dX7_init_38 ?_
  have X := mCx.g1 (k := 16) X A (by decide) (by decide)
  have Y : mEndC _ (x + 1) 324 7582 29 none none _ := mEndC.g1 (k := 16) Y A
  have J := mIn.g1 (k := 16) J
  have O := mCo.g1 (k := 16) O
  have A : mAl _ (x + 1) 324 7582 29 557 := mAl.g1 (k := 16) A
  refine r_dup X dX7_init_41 rfl ?_
  have hd : (va_up (ov (uA3 h x) x [.inr (7, [.ref (x + 1), .ref (x + 13), .ref (x + 15), .null, .null, .null, .null, .null, .null, .int 0, .int 0, .long 0, .int 0])]) (x + 29) (some (.inr (2, [.int 0, .int 0, .int 0, .null, .null, .null, .null, .null, .null, .null, .null, .null, .null, .null, .null, .null])))) (x + 29) = some (.inr (2, [.int 0, .int 0, .int 0, .null, .null, .null, .null, .null, .null, .null, .null, .null, .null, .null, .null, .null])) := vu_self
  refine r_invIN X A O (k0 := 1) (kc := 13) (ks := 54) (As := []) (host := "UnitHours") (wN 150 (by decide +kernel) (by decide +kernel)) ki_X2_init kn_RX2 kc_X2_init rfl ⟨by decide, by decide, by decide⟩ (by decide) (by decide) dX7_init_42 rfl (Nat.le_of_ble_eq_true rfl) (Or.inr ⟨_, hd⟩) (by decide) (by decide) (c_init2 hd) ?_
  have X := mCx.gk (k := 13) (j := 54) X A (by decide) (by decide)
  have Y : mEndC _ (x + 1) 324 7582 42 none none _ := mEndC.gk (k := 13) (j := 54) Y A
  have J := mIn.gk (k := 13) (j := 54) J
  have O := mCo.gk (k := 13) (j := 54) O
  have A : mAl _ (x + 1) 324 7582 42 611 := mAl.gk (k := 13) (j := 54) A
  refine SW.heq (h2 := ov (uA4 h x) x [.inr (7, [.ref (x + 1), .ref (x + 13), .ref (x + 15), .null, .null, .null, .null, .null, .null, .int 0, .int 0, .long 0, .int 0])]) (ov_va.trans (ov_comm (Or.inl (show x + 1 ≤ x + 29 by omega)))) ?_
  clear hd
  refine r_putF X J (ref := RX7) inG7 tyX7 tyX7_ok nmX7 rfl 3 (by decide) (wG 373 (by decide +kernel) (by decide +kernel)) rfl rfl rfl rfl rfl dX7_init_45 (ov_isV (d := x) 0 _ rfl) (Nat.le_of_ble_eq_true rfl) ?_
  refine SW.heq (h2 := ov (uA4 h x) x [.inr (7, [.ref (x + 1), .ref (x + 13), .ref (x + 15), .ref (x + 29), .null, .null, .null, .null, .null, .int 0, .int 0, .long 0, .int 0])]) (ov_up 0 (Nat.succ_pos _) rfl) ?_
  refine r_aload_n X 0 dX7_init_48 rfl ?_
  refine r_iconst X (nI 2) dX7_init_49 (by decide) ?_
  refine r_anewD X A O (by decide) (wG 148 (by decide +kernel) (by decide +kernel)) (Or.inr ⟨_, isV_ov (d := x) (Or.inr (show x + 1 ≤ x + 29 by omega)) (ov_isV (d := x + 29)) 13 _ rfl⟩) (by decide) (by decide) dX7_init_50 ?_
  have X := mCx.g1 (k := 2) X A (by decide) (by decide)
  have Y : mEndC _ (x + 1) 324 7582 43 none none _ := mEndC.g1 (k := 2) Y A
  have J := mIn.g1 (k := 2) J
  have O := mCo.g1 (k := 2) O
  have A : mAl _ (x + 1) 324 7582 43 613 := mAl.g1 (k := 2) A
  refine SW.heq (h2 := ov (ov (uA4 h x) (x + 43) [.inl (3, 2, .inr (.inr (.inr (.inr (fun _ => none)))))]) x [.inr (7, [.ref (x + 1), .ref (x + 13), .ref (x + 15), .ref (x + 29), .null, .null, .null, .null, .null, .int 0, .int 0, .long 0, .int 0])]) (va_one.trans (ov_comm (Or.inl (show x + 1 ≤ x + 43 by omega)))) ?_
  refine r_putF X J (ref := RX7) inG7 tyX7 tyX7_ok nmX7 rfl 4 (by decide) (wG 374 (by decide +kernel) (by decide +kernel)) rfl rfl rfl rfl rfl dX7_init_53 (ov_isV (d := x) 0 _ rfl) (Nat.le_of_ble_eq_true rfl) ?_
  refine SW.heq (h2 := ov (ov (uA4 h x) (x + 43) [.inl (3, 2, .inr (.inr (.inr (.inr (fun _ => none)))))]) x [.inr (7, [.ref (x + 1), .ref (x + 13), .ref (x + 15), .ref (x + 29), .ref (x + 43), .null, .null, .null, .null, .int 0, .int 0, .long 0, .int 0])]) (ov_up 0 (Nat.succ_pos _) rfl) ?_
  refine r_iconst X (nI 0) dX7_init_56 (by decide) ?_
  refine r_istore_n [(0, .ref x), (1, .int (nI 0))] X dX7_init_57 rfl (by decide) rfl ?_
  refine r_iload_n X 1 dX7_init_58 rfl ?_
  refine r_iconst X (nI 2) dX7_init_59 (by decide) ?_
  refine r_icmp_ge X 82 dX7_init_60 rfl (fun c => absurd (by decide) c) (fun _ => ?_)
  refine r_aload_n X 0 dX7_init_63 rfl ?_
  refine gf_X7_33 X dX7_init_64 (ov_isV (d := x) 0 _ rfl) rfl ?_
  refine r_iload_n X 1 dX7_init_67 rfl ?_
  refine r_newo X A tyX2 tyX2_ok (ci := 2) (fs := [.int 0, .int 0, .int 0, .null, .null, .null, .null, .null, .null, .null, .null, .null, .null, .null, .null, .null]) rfl inG2 (wG 148 (by decide +kernel) (by decide +kernel)) (wG 149 (by decide +kernel) (by decide +kernel)) kn_RX2 (by decide) (Or.inr ⟨_, isV_ov (d := x) (Or.inr (show x + 1 ≤ x + 43 by omega)) (ov_isV (d := x + 43)) 0 _ rfl⟩) (by decide) (by decide) dX7_init_68 ?_
  have X := mCx.g1 (k := 16) X A (by decide) (by decide)
  have Y : mEndC _ (x + 1) 324 7582 44 none none _ := mEndC.g1 (k := 16) Y A
  have J := mIn.g1 (k := 16) J
  have O := mCo.g1 (k := 16) O
  have A : mAl _ (x + 1) 324 7582 44 629 := mAl.g1 (k := 16) A
  refine r_dup X dX7_init_71 rfl ?_
  have hd : (va_up (ov (ov (uA4 h x) (x + 43) [.inl (3, 2, .inr (.inr (.inr (.inr (fun _ => none)))))]) x [.inr (7, [.ref (x + 1), .ref (x + 13), .ref (x + 15), .ref (x + 29), .ref (x + 43), .null, .null, .null, .null, .int 0, .int 0, .long 0, .int 0])]) (x + 44) (some (.inr (2, [.int 0, .int 0, .int 0, .null, .null, .null, .null, .null, .null, .null, .null, .null, .null, .null, .null, .null])))) (x + 44) = some (.inr (2, [.int 0, .int 0, .int 0, .null, .null, .null, .null, .null, .null, .null, .null, .null, .null, .null, .null, .null])) := vu_self
  refine r_invIN X A O (k0 := 1) (kc := 13) (ks := 54) (As := []) (host := "UnitHours") (wN 150 (by decide +kernel) (by decide +kernel)) ki_X2_init kn_RX2 kc_X2_init rfl ⟨by decide, by decide, by decide⟩ (by decide) (by decide) dX7_init_72 rfl (Nat.le_of_ble_eq_true rfl) (Or.inr ⟨_, hd⟩) (by decide) (by decide) (c_init2 hd) ?_
  have X := mCx.gk (k := 13) (j := 54) X A (by decide) (by decide)
  have Y : mEndC _ (x + 1) 324 7582 57 none none _ := mEndC.gk (k := 13) (j := 54) Y A
  have J := mIn.gk (k := 13) (j := 54) J
  have O := mCo.gk (k := 13) (j := 54) O
  have A : mAl _ (x + 1) 324 7582 57 683 := mAl.gk (k := 13) (j := 54) A
  refine SW.heq (h2 := ov (ov (uB1 h x) (x + 43) [.inl (3, 2, .inr (.inr (.inr (.inr (fun _ => none)))))]) x [.inr (7, [.ref (x + 1), .ref (x + 13), .ref (x + 15), .ref (x + 29), .ref (x + 43), .null, .null, .null, .null, .int 0, .int 0, .long 0, .int 0])]) (ov_va.trans ((ov_comm (Or.inl (show x + 1 ≤ x + 44 by omega))).trans (congrArg (fun E => ov E x [.inr (7, [.ref (x + 1), .ref (x + 13), .ref (x + 15), .ref (x + 29), .ref (x + 43), .null, .null, .null, .null, .int 0, .int 0, .long 0, .int 0])]) (ov_comm (Or.inl (show x + 43 + 1 ≤ x + 44 by omega)))))) ?_
  clear hd
  refine r_aastD X (k0 := 0) dX7_init_75 (isV_ov (d := x) (Or.inr (show x + 1 ≤ x + 43 by omega)) (ov_isV (d := x + 43)) 0 _ rfl) (isV_ov (d := x) (Or.inr (show x + 1 ≤ x + 44 by omega)) (isV_ov (d := x + 43) (Or.inr (show x + 43 + 1 ≤ x + 44 by omega)) (ov_isV (d := x + 44))) 0 _ rfl) (by decide) (by decide) ?_
  refine SW.heq (h2 := ov (ov (uB1 h x) (x + 43) [.inl (3, 2, .inr (.inr (.inr (.inr (va_up (fun _ => none) 0 (some (x + 44)))))))]) x [.inr (7, [.ref (x + 1), .ref (x + 13), .ref (x + 15), .ref (x + 29), .ref (x + 43), .null, .null, .null, .null, .int 0, .int 0, .long 0, .int 0])]) (ov_up2 (d := x + 43) (n := 1) (Or.inr (show x + 1 ≤ x + 43 by omega)) 0 (by decide) (ov_up 0 (Nat.succ_pos _) rfl)) ?_
  refine r_iinc [(0, .ref x), (1, .int (nI 1))] X (nI 1) 1 dX7_init_76 rfl (by decide) (by decide) rfl ?_
  refine r_goto X 58 dX7_init_79 rfl ?_
  refine r_iload_n X 1 dX7_init_58 rfl ?_
  refine r_iconst X (nI 2) dX7_init_59 (by decide) ?_
  refine r_icmp_ge X 82 dX7_init_60 rfl (fun c => absurd (by decide) c) (fun _ => ?_)
  refine r_aload_n X 0 dX7_init_63 rfl ?_
  refine gf_X7_33 X dX7_init_64 (ov_isV (d := x) 0 _ rfl) rfl ?_
  refine r_iload_n X 1 dX7_init_67 rfl ?_
  refine r_newo X A tyX2 tyX2_ok (ci := 2) (fs := [.int 0, .int 0, .int 0, .null, .null, .null, .null, .null, .null, .null, .null, .null, .null, .null, .null, .null]) rfl inG2 (wG 148 (by decide +kernel) (by decide +kernel)) (wG 149 (by decide +kernel) (by decide +kernel)) kn_RX2 (by decide) (Or.inr ⟨_, isV_ov (d := x) (Or.inr (show x + 1 ≤ x + 44 by omega)) (isV_ov (d := x + 43) (Or.inr (show x + 43 + 1 ≤ x + 44 by omega)) (ov_isV (d := x + 44))) 13 _ rfl⟩) (by decide) (by decide) dX7_init_68 ?_
  have X := mCx.g1 (k := 16) X A (by decide) (by decide)
  have Y : mEndC _ (x + 1) 324 7582 58 none none _ := mEndC.g1 (k := 16) Y A
  have J := mIn.g1 (k := 16) J
  have O := mCo.g1 (k := 16) O
  have A : mAl _ (x + 1) 324 7582 58 699 := mAl.g1 (k := 16) A
  refine r_dup X dX7_init_71 rfl ?_
  have hd : (va_up (ov (ov (uB1 h x) (x + 43) [.inl (3, 2, .inr (.inr (.inr (.inr (va_up (fun _ => none) 0 (some (x + 44)))))))]) x [.inr (7, [.ref (x + 1), .ref (x + 13), .ref (x + 15), .ref (x + 29), .ref (x + 43), .null, .null, .null, .null, .int 0, .int 0, .long 0, .int 0])]) (x + 58) (some (.inr (2, [.int 0, .int 0, .int 0, .null, .null, .null, .null, .null, .null, .null, .null, .null, .null, .null, .null, .null])))) (x + 58) = some (.inr (2, [.int 0, .int 0, .int 0, .null, .null, .null, .null, .null, .null, .null, .null, .null, .null, .null, .null, .null])) := vu_self
  refine r_invIN X A O (k0 := 1) (kc := 13) (ks := 54) (As := []) (host := "UnitHours") (wN 150 (by decide +kernel) (by decide +kernel)) ki_X2_init kn_RX2 kc_X2_init rfl ⟨by decide, by decide, by decide⟩ (by decide) (by decide) dX7_init_72 rfl (Nat.le_of_ble_eq_true rfl) (Or.inr ⟨_, hd⟩) (by decide) (by decide) (c_init2 hd) ?_
  have X := mCx.gk (k := 13) (j := 54) X A (by decide) (by decide)
  have Y : mEndC _ (x + 1) 324 7582 71 none none _ := mEndC.gk (k := 13) (j := 54) Y A
  have J := mIn.gk (k := 13) (j := 54) J
  have O := mCo.gk (k := 13) (j := 54) O
  have A : mAl _ (x + 1) 324 7582 71 753 := mAl.gk (k := 13) (j := 54) A
  refine SW.heq (h2 := ov (ov (uB2 h x) (x + 43) [.inl (3, 2, .inr (.inr (.inr (.inr (va_up (fun _ => none) 0 (some (x + 44)))))))]) x [.inr (7, [.ref (x + 1), .ref (x + 13), .ref (x + 15), .ref (x + 29), .ref (x + 43), .null, .null, .null, .null, .int 0, .int 0, .long 0, .int 0])]) (ov_va.trans ((ov_comm (Or.inl (show x + 1 ≤ x + 58 by omega))).trans (congrArg (fun E => ov E x [.inr (7, [.ref (x + 1), .ref (x + 13), .ref (x + 15), .ref (x + 29), .ref (x + 43), .null, .null, .null, .null, .int 0, .int 0, .long 0, .int 0])]) (ov_comm (Or.inl (show x + 43 + 1 ≤ x + 58 by omega)))))) ?_
  clear hd
  refine r_aastD X (k0 := 1) dX7_init_75 (isV_ov (d := x) (Or.inr (show x + 1 ≤ x + 43 by omega)) (ov_isV (d := x + 43)) 0 _ rfl) (isV_ov (d := x) (Or.inr (show x + 1 ≤ x + 58 by omega)) (isV_ov (d := x + 43) (Or.inr (show x + 43 + 1 ≤ x + 58 by omega)) (ov_isV (d := x + 58))) 0 _ rfl) (by decide) (by decide) ?_
  refine SW.heq (h2 := ov (ov (uB2 h x) (x + 43) [.inl (3, 2, .inr (.inr (.inr (.inr (va_up (va_up (fun _ => none) 0 (some (x + 44))) 1 (some (x + 58)))))))]) x [.inr (7, [.ref (x + 1), .ref (x + 13), .ref (x + 15), .ref (x + 29), .ref (x + 43), .null, .null, .null, .null, .int 0, .int 0, .long 0, .int 0])]) (ov_up2 (d := x + 43) (n := 1) (Or.inr (show x + 1 ≤ x + 43 by omega)) 0 (by decide) (ov_up 0 (Nat.succ_pos _) rfl)) ?_
  refine r_iinc [(0, .ref x), (1, .int (nI 2))] X (nI 2) 1 dX7_init_76 rfl (by decide) (by decide) rfl ?_
  refine r_goto X 58 dX7_init_79 rfl ?_
  refine r_iload_n X 1 dX7_init_58 rfl ?_
  refine r_iconst X (nI 2) dX7_init_59 (by decide) ?_
  refine r_icmp_ge X 82 dX7_init_60 rfl (fun _ => ?_) (fun c => absurd c (by decide))
  refine SW.recell (a := x + 43) (g := fun i => some (x + 43 + (1 + 14 * i))) (isV_ov (d := x) (Or.inr (show x + 1 ≤ x + 43 by omega)) (ov_isV (d := x + 43)) 0 _ rfl) (fun i hi => ?_) ?_
  · rcases (show i = 0 ∨ i = 1 by omega) with e | e
    · subst e; rfl
    · subst e; rfl
  refine SW.heq (h2 := ov (uA5 h x) x [.inr (7, [.ref (x + 1), .ref (x + 13), .ref (x + 15), .ref (x + 29), .ref (x + 43), .null, .null, .null, .null, .int 0, .int 0, .long 0, .int 0])]) (ov_up2 (d := x + 43) (n := 1) (Or.inr (show x + 1 ≤ x + 43 by omega)) 0 (by decide) (ov_up 0 (Nat.succ_pos _) rfl)) ?_
  refine SW.sub [(0, .ref x), (1, .int (nI 2))] (lv' := [(0, .ref x)]) (fun q hq => by rw [List.mem_singleton.mp hq]; exact List.mem_cons_self ..) ?_
  refine r_aload_n X 0 dX7_init_82 rfl ?_
  refine r_newo X A tyX0 tyX0_ok (ci := 0) (fs := [.null, .int 0, .int 0]) rfl inG0 (wG 245 (by decide +kernel) (by decide +kernel)) (wG 246 (by decide +kernel) (by decide +kernel)) kn_RX0 (by decide) (Or.inr ⟨_, isV_ov (d := x) (Or.inr (show x + 1 ≤ x + 58 by omega)) (isV_ov (d := x + 43) (Or.inr (show x + 43 + 1 ≤ x + 58 by omega)) (ov_isV (d := x + 58))) 13 _ rfl⟩) (by decide) (by decide) dX7_init_83 ?_
  have X := mCx.g1 (k := 3) X A (by decide) (by decide)
  have Y : mEndC _ (x + 1) 324 7582 72 none none _ := mEndC.g1 (k := 3) Y A
  have J := mIn.g1 (k := 3) J
  have O := mCo.g1 (k := 3) O
  have A : mAl _ (x + 1) 324 7582 72 756 := mAl.g1 (k := 3) A
  refine r_dup X dX7_init_86 rfl ?_
  have hd : (va_up (ov (uA5 h x) x [.inr (7, [.ref (x + 1), .ref (x + 13), .ref (x + 15), .ref (x + 29), .ref (x + 43), .null, .null, .null, .null, .int 0, .int 0, .long 0, .int 0])]) (x + 72) (some (.inr (0, [.null, .int 0, .int 0])))) (x + 72) = some (.inr (0, [.null, .int 0, .int 0])) := vu_self
  refine r_invI X A O (k0 := 2) (kc := 225) (ks := 1136) (As := []) (wG 247 (by decide +kernel) (by decide +kernel)) ki_X0_init kn_RX0 kc_X0_init rfl ⟨by decide, by decide, by decide⟩ (by decide) (by decide) dX7_init_87 rfl (Nat.le_of_ble_eq_true rfl) (Or.inr ⟨_, hd⟩) (by decide) (by decide) (c_init0 hd) ?_
  have X := mCx.gk (k := 225) (j := 1136) X A (by decide) (by decide)
  have Y : mEndC _ (x + 1) 324 7582 297 none none _ := mEndC.gk (k := 225) (j := 1136) Y A
  have J := mIn.gk (k := 225) (j := 1136) J
  have O := mCo.gk (k := 225) (j := 1136) O
  have A : mAl _ (x + 1) 324 7582 297 1892 := mAl.gk (k := 225) (j := 1136) A
  refine SW.heq (h2 := ov (uA6 h x) x [.inr (7, [.ref (x + 1), .ref (x + 13), .ref (x + 15), .ref (x + 29), .ref (x + 43), .null, .null, .null, .null, .int 0, .int 0, .long 0, .int 0])]) (acZ_new (show x + 1 ≤ x + 72 by omega)) ?_
  clear hd
  refine r_putF X J (ref := RX7) inG7 tyX7 tyX7_ok nmX7 rfl 5 (by decide) (wG 375 (by decide +kernel) (by decide +kernel)) rfl rfl rfl rfl rfl dX7_init_90 (ov_isV (d := x) 0 _ rfl) (Nat.le_of_ble_eq_true rfl) ?_
  refine SW.heq (h2 := ov (uA6 h x) x [.inr (7, [.ref (x + 1), .ref (x + 13), .ref (x + 15), .ref (x + 29), .ref (x + 43), .ref (x + 72), .null, .null, .null, .int 0, .int 0, .long 0, .int 0])]) (ov_up 0 (Nat.succ_pos _) rfl) ?_
  have hl : ∃ e, (ov (uA6 h x) x [.inr (7, [.ref (x + 1), .ref (x + 13), .ref (x + 15), .ref (x + 29), .ref (x + 43), .ref (x + 72), .null, .null, .null, .int 0, .int 0, .long 0, .int 0])]) (x + 1 + 297 - 1) = some e := by
    obtain ⟨e, q⟩ := acZ_e (h := uA5 h x) (c := x + 72)
    exact ⟨e, (ov_out (Or.inr (show x + 1 ≤ x + 297 by omega))).trans q⟩
  refine r_aload_n X 0 dX7_init_93 rfl ?_
  refine r_newo X A tyX5 tyX5_ok (ci := 5) (fs := [.null, .null, .null, .null, .null, .null, .null, .null, .null, .null, .null, .null, .int 0, .int 0, .int 0]) rfl inG5 (wG 264 (by decide +kernel) (by decide +kernel)) (wG 265 (by decide +kernel) (by decide +kernel)) kn_RX5 (by decide) (Or.inr hl) (by decide) (by decide) dX7_init_94 ?_
  have X := mCx.g1 (k := 15) X A (by decide) (by decide)
  have Y : mEndC _ (x + 1) 324 7582 298 none none _ := mEndC.g1 (k := 15) Y A
  have J := mIn.g1 (k := 15) J
  have O := mCo.g1 (k := 15) O
  have A : mAl _ (x + 1) 324 7582 298 1907 := mAl.g1 (k := 15) A
  refine r_dup X dX7_init_97 rfl ?_
  have hd : (va_up (ov (uA6 h x) x [.inr (7, [.ref (x + 1), .ref (x + 13), .ref (x + 15), .ref (x + 29), .ref (x + 43), .ref (x + 72), .null, .null, .null, .int 0, .int 0, .long 0, .int 0])]) (x + 298) (some (.inr (5, [.null, .null, .null, .null, .null, .null, .null, .null, .null, .null, .null, .null, .int 0, .int 0, .int 0])))) (x + 298) = some (.inr (5, [.null, .null, .null, .null, .null, .null, .null, .null, .null, .null, .null, .null, .int 0, .int 0, .int 0])) := vu_self
  refine r_invI X A O (k0 := 1) (kc := 20) (ks := 5572) (As := []) (wG 266 (by decide +kernel) (by decide +kernel)) ki_X5_init kn_RX5 kc_X5_init rfl ⟨by decide, by decide, by decide⟩ (by decide) (by decide) dX7_init_98 rfl (Nat.le_of_ble_eq_true rfl) (Or.inr ⟨_, hd⟩) (by decide) (by decide) (c_init5 hd) ?_
  have X := mCx.gk (k := 20) (j := 5572) X A (by decide) (by decide)
  have Y : mEndC _ (x + 1) 324 7582 318 none none _ := mEndC.gk (k := 20) (j := 5572) Y A
  have J := mIn.gk (k := 20) (j := 5572) J
  have O := mCo.gk (k := 20) (j := 5572) O
  have A : mAl _ (x + 1) 324 7582 318 7479 := mAl.gk (k := 20) (j := 5572) A
  refine SW.heq (h2 := ov (uA7 h x) x [.inr (7, [.ref (x + 1), .ref (x + 13), .ref (x + 15), .ref (x + 29), .ref (x + 43), .ref (x + 72), .null, .null, .null, .int 0, .int 0, .long 0, .int 0])]) (ov_va.trans (ov_comm (Or.inl (show x + 1 ≤ x + 298 by omega)))) ?_
  clear hd
  refine r_putF X J (ref := RX7) inG7 tyX7 tyX7_ok nmX7 rfl 6 (by decide) (wG 376 (by decide +kernel) (by decide +kernel)) rfl rfl rfl rfl rfl dX7_init_101 (ov_isV (d := x) 0 _ rfl) (Nat.le_of_ble_eq_true rfl) ?_
  refine SW.heq (h2 := ov (uA7 h x) x [.inr (7, [.ref (x + 1), .ref (x + 13), .ref (x + 15), .ref (x + 29), .ref (x + 43), .ref (x + 72), .ref (x + 298), .null, .null, .int 0, .int 0, .long 0, .int 0])]) (ov_up 0 (Nat.succ_pos _) rfl) ?_
  refine r_aload_n X 0 dX7_init_104 rfl ?_
  refine r_newo X A tyX3 tyX3_ok (ci := 3) (fs := [.null, .null, .null, .long 0, .int 0]) rfl inG3 (wG 318 (by decide +kernel) (by decide +kernel)) (wG 319 (by decide +kernel) (by decide +kernel)) kn_RX3 (by decide) (Or.inr ⟨_, isV_ov (d := x) (Or.inr (show x + 1 ≤ x + 298 by omega)) (ov_isV (d := x + 298)) 20 _ rfl⟩) (by decide) (by decide) dX7_init_105 ?_
  have X := mCx.g1 (k := 5) X A (by decide) (by decide)
  have Y : mEndC _ (x + 1) 324 7582 319 none none _ := mEndC.g1 (k := 5) Y A
  have J := mIn.g1 (k := 5) J
  have O := mCo.g1 (k := 5) O
  have A : mAl _ (x + 1) 324 7582 319 7484 := mAl.g1 (k := 5) A
  refine r_dup X dX7_init_108 rfl ?_
  have hd : (va_up (ov (uA7 h x) x [.inr (7, [.ref (x + 1), .ref (x + 13), .ref (x + 15), .ref (x + 29), .ref (x + 43), .ref (x + 72), .ref (x + 298), .null, .null, .int 0, .int 0, .long 0, .int 0])]) (x + 319) (some (.inr (3, [.null, .null, .null, .long 0, .int 0])))) (x + 319) = some (.inr (3, [.null, .null, .null, .long 0, .int 0])) := vu_self
  refine r_invIN X A O (k0 := 1) (kc := 3) (ks := 76) (As := []) (host := "UnitHours") (wN 320 (by decide +kernel) (by decide +kernel)) ki_X3_init kn_RX3 kc_X3_init rfl ⟨by decide, by decide, by decide⟩ (by decide) (by decide) dX7_init_109 rfl (Nat.le_of_ble_eq_true rfl) (Or.inr ⟨_, hd⟩) (by decide) (by decide) (c_init3 hd) ?_
  have X := mCx.gk (k := 3) (j := 76) X A (by decide) (by decide)
  have Y : mEndC _ (x + 1) 324 7582 322 none none _ := mEndC.gk (k := 3) (j := 76) Y A
  have J := mIn.gk (k := 3) (j := 76) J
  have O := mCo.gk (k := 3) (j := 76) O
  have A : mAl _ (x + 1) 324 7582 322 7560 := mAl.gk (k := 3) (j := 76) A
  refine SW.heq (h2 := ov (uA8 h x) x [.inr (7, [.ref (x + 1), .ref (x + 13), .ref (x + 15), .ref (x + 29), .ref (x + 43), .ref (x + 72), .ref (x + 298), .null, .null, .int 0, .int 0, .long 0, .int 0])]) (ov_va.trans (ov_comm (Or.inl (show x + 1 ≤ x + 319 by omega)))) ?_
  clear hd
  refine r_putF X J (ref := RX7) inG7 tyX7 tyX7_ok nmX7 rfl 7 (by decide) (wG 377 (by decide +kernel) (by decide +kernel)) rfl rfl rfl rfl rfl dX7_init_112 (ov_isV (d := x) 0 _ rfl) (Nat.le_of_ble_eq_true rfl) ?_
  refine SW.heq (h2 := ov (uA8 h x) x [.inr (7, [.ref (x + 1), .ref (x + 13), .ref (x + 15), .ref (x + 29), .ref (x + 43), .ref (x + 72), .ref (x + 298), .ref (x + 319), .null, .int 0, .int 0, .long 0, .int 0])]) (ov_up 0 (Nat.succ_pos _) rfl) ?_
  refine r_aload_n X 0 dX7_init_115 rfl ?_
  refine r_newo X A tyX1 tyX1_ok (ci := 1) (fs := [.null, .int 0, .int 0, .int 0, .int 0, .int 0]) rfl inG1 (wG 343 (by decide +kernel) (by decide +kernel)) (wG 344 (by decide +kernel) (by decide +kernel)) kn_RX1 (by decide) (Or.inr ⟨_, isV_ov (d := x) (Or.inr (show x + 1 ≤ x + 319 by omega)) (ov_isV (d := x + 319)) 3 _ rfl⟩) (by decide) (by decide) dX7_init_116 ?_
  have X := mCx.g1 (k := 6) X A (by decide) (by decide)
  have Y : mEndC _ (x + 1) 324 7582 323 none none _ := mEndC.g1 (k := 6) Y A
  have J := mIn.g1 (k := 6) J
  have O := mCo.g1 (k := 6) O
  have A : mAl _ (x + 1) 324 7582 323 7566 := mAl.g1 (k := 6) A
  refine r_dup X dX7_init_119 rfl ?_
  have hd : (va_up (ov (uA8 h x) x [.inr (7, [.ref (x + 1), .ref (x + 13), .ref (x + 15), .ref (x + 29), .ref (x + 43), .ref (x + 72), .ref (x + 298), .ref (x + 319), .null, .int 0, .int 0, .long 0, .int 0])]) (x + 323) (some (.inr (1, [.null, .int 0, .int 0, .int 0, .int 0, .int 0])))) (x + 323) = some (.inr (1, [.null, .int 0, .int 0, .int 0, .int 0, .int 0])) := vu_self
  refine r_invIN X A O (k0 := 1) (kc := 1) (ks := 16) (As := []) (host := "UnitHours") (wN 345 (by decide +kernel) (by decide +kernel)) ki_X1_init kn_RX1 kc_X1_init rfl ⟨by decide, by decide, by decide⟩ (by decide) (by decide) dX7_init_120 rfl (Nat.le_of_ble_eq_true rfl) (Or.inr ⟨_, hd⟩) (by decide) (by decide) (c_init1 hd) ?_
  have X := mCx.gk (k := 1) (j := 16) X A (by decide) (by decide)
  have Y : mEndC _ (x + 1) 324 7582 324 none none _ := mEndC.gk (k := 1) (j := 16) Y A
  have J := mIn.gk (k := 1) (j := 16) J
  have O := mCo.gk (k := 1) (j := 16) O
  have A : mAl _ (x + 1) 324 7582 324 7582 := mAl.gk (k := 1) (j := 16) A
  refine SW.heq (h2 := ov (uA9 h x) x [.inr (7, [.ref (x + 1), .ref (x + 13), .ref (x + 15), .ref (x + 29), .ref (x + 43), .ref (x + 72), .ref (x + 298), .ref (x + 319), .null, .int 0, .int 0, .long 0, .int 0])]) (ov_va.trans (ov_comm (Or.inl (show x + 1 ≤ x + 323 by omega)))) ?_
  clear hd
  refine r_putF X J (ref := RX7) inG7 tyX7 tyX7_ok nmX7 rfl 8 (by decide) (wG 378 (by decide +kernel) (by decide +kernel)) rfl rfl rfl rfl rfl dX7_init_123 (ov_isV (d := x) 0 _ rfl) (Nat.le_of_ble_eq_true rfl) ?_
  refine SW.heq (h2 := ov (uA9 h x) x [.inr (7, [.ref (x + 1), .ref (x + 13), .ref (x + 15), .ref (x + 29), .ref (x + 43), .ref (x + 72), .ref (x + 298), .ref (x + 319), .ref (x + 323), .int 0, .int 0, .long 0, .int 0])]) (ov_up 0 (Nat.succ_pos _) rfl) ?_
  exact r_return X (mEndC.fin Y A) dX7_init_126 rfl rfl
