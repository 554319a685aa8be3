def acF (c : Nat) : Nat → Nat → Option Nat
  | 0 => fun _ => none
  | k + 1 => va_up (acF c k) k (some (c + (2 + 14 * k)))
def acL (c k : Nat) : List mC := [.inr (0, [.ref (c + 1), .int 0, .int 0]), .inl (3, 16, .inr (.inr (.inr (.inr (acF c k)))))]
def dayZ (d : Nat) : List mC := dayL d 0 0 0 (fun _ => 0) (fun _ => 0) (fun _ => 0) (fun _ => 0) (fun _ => 0) (fun _ => 0) (fun _ => 0) (fun _ => 0) (fun _ => 0) (fun _ => 0) (fun _ => 0) (fun _ => 0) (fun _ => 0)
def acH (h : mHp) (c : Nat) : Nat → mHp
  | 0 => ov h c (acL c 0)
  | k + 1 => ov (ov (acH h c k) (c + (2 + 14 * k)) (dayZ (c + (2 + 14 * k)))) c (acL c (k + 1))
theorem acH_v {h : mHp} {c : Nat} : ∀ k, isV (acH h c k) c (acL c k)
  | 0 => ov_isV
  | _ + 1 => ov_isV
theorem acF_s {c : Nat} : ∀ k i, i < k → acF c k i = some (c + (2 + 14 * i)) := by
  intro k
  induction k with
  | zero => intro i hi; exact absurd hi (Nat.not_lt_zero _)
  | succ k ih =>
    intro i hi
    show va_up (acF c k) k (some (c + (2 + 14 * k))) i = _
    by_cases e : i = k
    · rw [e, vu_self]
    · rw [vu_ne e]; exact ih i (by omega)
def acZ (h : mHp) (c : Nat) : mHp := ov (acH h c 16) c (actL c 0 0)
theorem acH_e {h : mHp} {c : Nat} : ∀ k, ∃ e, acH h c k (c + 1 + (1 + 14 * k) - 1) = some e
  | 0 => ⟨_, acH_v 0 1 _ rfl⟩
  | k + 1 => by
    have h1 : isV (acH h c (k + 1)) (c + (2 + 14 * k)) (dayZ (c + (2 + 14 * k))) := isV_ov (Or.inr (by show c + 2 ≤ _; omega)) ov_isV
    have h2 := h1 13 _ rfl
    rw [show c + 1 + (1 + 14 * (k + 1)) - 1 = c + (2 + 14 * k) + 13 by omega]
    exact ⟨_, h2⟩
theorem ov_va {h : mHp} {d : Nat} {x : Option mC} {e : mC} {L : List mC} : ov (va_up h d x) d (e :: L) = ov h d (e :: L) := by
  funext a
  show (if d ≤ a ∧ a < d + (e :: L).length then (e :: L)[a - d]? else va_up h d x a) = if d ≤ a ∧ a < d + (e :: L).length then (e :: L)[a - d]? else h a
  by_cases z : d ≤ a ∧ a < d + (e :: L).length
  · rw [if_pos z, if_pos z]
  · rw [if_neg z, if_neg z, va_up, if_neg (fun q => z ⟨by omega, by rw [q]; show d < d + (L.length + 1); omega⟩)]
set_option maxRecDepth 20000 in
set_option maxHeartbeats 4000000 in
theorem acts_L {h : mHp} {c : Nat} : ∀ j k, k + j = 16 → ∀ Z : mZ, mCx Z RX0 cX0_init 2 2 → mAl Z (c + 1) 225 1136 (1 + 14 * k) (16 + 70 * k) → mEndC Z (c + 1) 225 1136 (1 + 14 * k) none none (acZ h c) → mCo Z → SW Z 15 [(0, .ref c), (1, .int (nI k))] [] (acH h c k) := by
  intro j
  induction j with
  | zero =>
    intro k hk Z X A Y O
    obtain rfl : k = 16 := by omega
    refine r_iload_n X 1 dX0_init_15 rfl ?_
    refine r_bipush X (nI 16) dX0_init_16 (by decide) ?_
    refine r_icmp_ge X 40 dX0_init_18 rfl (fun _ => ?_) (fun c => absurd c (by decide))
    refine SW.recell (g := fun i => some (c + (2 + 14 * i))) (acH_v 16 1 _ rfl) (fun i hi => acF_s 16 i hi) ?_
    refine SW.heq (h2 := acZ h c) (by
      unfold acZ
      have hv := acH_v (h := h) (c := c) 16
      generalize acH h c 16 = H at hv ⊢
      conv => lhs; rw [← ov_self hv]
      rw [ov_up 1 (Nat.le_of_ble_eq_true rfl) rfl]
      rfl) ?_
    exact r_return X (mEndC.fin Y A) dX0_init_40 rfl rfl
  | succ j ih =>
    intro k hk Z X A Y O
    refine r_iload_n X 1 dX0_init_15 rfl ?_
    refine r_bipush X (nI 16) dX0_init_16 (by decide) ?_
    refine r_icmp_ge X 40 dX0_init_18 rfl (fun q => absurd (nI_lt (show k < 16 by omega) (by decide)) q) (fun _ => ?_)
    refine r_aload_n X 0 dX0_init_21 rfl ?_
    refine gf_X0_11 X dX0_init_22 (acH_v k 0 _ rfl) rfl ?_
    refine r_iload_n X 1 dX0_init_25 rfl ?_
    refine r_newo X A tyX2 tyX2_ok (ci := 2) (fs := [.int 0, .int 0, .int 0, .null, .null, .null, .null, .null, .null, .null, .null, .null, .null, .null, .null, .null]) rfl inG2 (wG 251 (by decide +kernel) (by decide +kernel)) (wG 149 (by decide +kernel) (by decide +kernel)) kn_RX2 (by decide) (Or.inr (acH_e k)) (by omega) (by omega) dX0_init_26 ?_
    have X1 := mCx.g1 (k := 16) X A (by omega) (by omega)
    have Y1 := mEndC.g1 (k := 16) Y A
    have A1 := mAl.g1 (k := 16) A
    have ea : c + 1 + (1 + 14 * k) = c + (2 + 14 * k) := by omega
    rw [ea]
    refine r_dup X1 dX0_init_29 rfl ?_
    have hd : (va_up (acH h c k) (c + (2 + 14 * k)) (some (.inr (2, [.int 0, .int 0, .int 0, .null, .null, .null, .null, .null, .null, .null, .null, .null, .null, .null, .null, .null])))) (c + (2 + 14 * k)) = some (.inr (2, [.int 0, .int 0, .int 0, .null, .null, .null, .null, .null, .null, .null, .null, .null, .null, .null, .null, .null])) := vu_self
    have hC := c_init2 (G := (zG1 Z 16).1) hd
    rw [show c + (2 + 14 * k) + 1 = c + 1 + (1 + 14 * k + 1) by omega] at hC
    refine r_invIN X1 A1 (mCo.g1 (k := 16) O) (As := []) (host := "UnitHours") (wN 252 (by decide +kernel) (by decide +kernel)) ki_X2_init kn_RX2 kc_X2_init rfl ⟨by decide, by decide, by decide⟩ (by decide) (by decide) dX0_init_30 rfl (Nat.le_of_ble_eq_true rfl) (Or.inr ⟨_, by rw [show c + 1 + (1 + 14 * k + 1) - 1 = c + (2 + 14 * k) by omega]; exact hd⟩) (by omega) (by omega) hC ?_
    have X2 := mCx.gk (k := 13) (j := 54) X1 A1 (by omega) (by omega)
    have Y2 := mEndC.gk (k := 13) (j := 54) Y1 A1
    have A2 := mAl.gk (k := 13) (j := 54) A1
    refine SW.heq (h2 := ov (acH h c k) (c + (2 + 14 * k)) (dayZ (c + (2 + 14 * k)))) ov_va ?_
    have hv : isV (ov (acH h c k) (c + (2 + 14 * k)) (dayZ (c + (2 + 14 * k)))) c (acL c k) := isV_ov (Or.inl (by show c + 2 ≤ _; omega)) (acH_v k)
    refine r_aastD X2 (k0 := k) dX0_init_33 (hv 1 _ rfl) (ov_isV 0 _ rfl) (by omega) (by decide) ?_
    refine SW.heq (h2 := acH h c (k + 1)) (by
      show va_up _ (c + 1) _ = ov (ov (acH h c k) (c + (2 + 14 * k)) (dayZ (c + (2 + 14 * k)))) c (acL c (k + 1))
      generalize ov (acH h c k) (c + (2 + 14 * k)) (dayZ (c + (2 + 14 * k))) = H at hv ⊢
      conv => lhs; rw [← ov_self hv]
      exact ov_up 1 (Nat.le_of_ble_eq_true rfl) rfl) ?_
    refine r_iinc [(0, .ref c), (1, .int (nI (k + 1)))] X2 (nI (k + 1)) 1 dX0_init_34 rfl (nI_succ _).symm (by decide) rfl ?_
    refine r_goto X2 15 dX0_init_37 rfl ?_
    refine ih (k + 1) (by omega) _ X2 ?_ ?_ ?_
    · rw [show 1 + 14 * (k + 1) = 1 + 14 * k + 1 + 13 by omega, show 16 + 70 * (k + 1) = 16 + 70 * k + 16 + 54 by omega]; exact A2
    · rw [show 1 + 14 * (k + 1) = 1 + 14 * k + 1 + 13 by omega]; exact Y2
    · exact mCo.gk (k := 13) (j := 54) (mCo.g1 (k := 16) O)
set_option maxRecDepth 20000 in
set_option maxHeartbeats 4000000 in
theorem c_init0 {G : mG} {h : mHp} {c : Nat} (he : h c = some (.inr (0, [.null, .int 0, .int 0]))) : RetC G 2 225 1136 (c + 1) mX0_init [.ref c] h none (acZ h c) := by
  refine RetC.ofI [(0, .ref c)] (by decide) rfl (Nat.le_of_ble_eq_true rfl) rfl ?_
  rintro Z rfl X A Y J O
  refine SW.heq (h2 := ov h c [.inr (0, [.null, .int 0, .int 0])]) (ov_self (fun j c hj => by cases j with | zero => exact (Option.some.inj hj) ▸ he | succ j => cases hj)).symm ?_
  refine r_aload_n X 0 dX0_init_0 rfl ?_
  refine r_obj X (by decide) (wG 250 (by decide +kernel) (by decide +kernel)) wOi wOc (Nat.zero_le _) dX0_init_1 ?_
  refine r_aload_n X 0 dX0_init_4 rfl ?_
  refine r_bipush X (nI 16) dX0_init_5 (by decide) ?_
  refine r_anewD X A O (by decide) (wG 251 (by decide +kernel) (by decide +kernel)) (Or.inl rfl) (by decide) (by decide) dX0_init_7 ?_
  refine SW.heq (h2 := ov h c [.inr (0, [.null, .int 0, .int 0]), .inl (3, 16, .inr (.inr (.inr (.inr (fun _ => none)))))]) (ov_app rfl rfl) ?_
  have X := mCx.g1 (k := 16) X A (by decide) (by decide)
  have Y := mEndC.g1 (k := 16) Y A
  have J := mIn.g1 (k := 16) J
  have A := mAl.g1 (k := 16) A
  refine r_putF X J (ref := RX0) inG0 tyX0 tyX0_ok nmX0 rfl 0 (by decide) (wG 253 (by decide +kernel) (by decide +kernel)) rfl rfl rfl rfl rfl dX0_init_10 (ov_isV (d := c) 0 _ rfl) (Nat.le_of_ble_eq_true rfl) ?_
  refine SW.heq (h2 := acH h c 0) (ov_up 0 (Nat.succ_pos _) rfl) ?_
  refine r_iconst X (nI 0) dX0_init_13 (by decide) ?_
  refine r_istore_n [(0, .ref c), (1, .int (nI 0))] X dX0_init_14 rfl (by decide) rfl ?_
  exact acts_L 16 0 rfl _ X A Y (mCo.g1 (k := 16) O)
