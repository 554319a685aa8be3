def drN (P : Nat → Nat) (u kd lo hi pr st up dn : Nat) : Nat → Nat := va_up (va_up (va_up (va_up (va_up (va_up (va_up (va_up (va_up P (9 + (8 * u)) kd) ((9 + (8 * u)) + 1) lo) ((9 + (8 * u)) + 2) hi) ((9 + (8 * u)) + 3) pr) ((9 + (8 * u)) + 4) st) ((9 + (8 * u)) + 5) up) ((9 + (8 * u)) + 6) dn) ((9 + (8 * u)) + 7) 0) 0 (u + 1)
theorem drN_0 {P : Nat → Nat} {u kd lo hi pr st up dn : Nat} : drN P u kd lo hi pr st up dn 0 = u + 1 := by
  unfold drN
  rw [vu_self]
theorem drN_1 {P : Nat → Nat} {u kd lo hi pr st up dn : Nat} : drN P u kd lo hi pr st up dn (9 + (8 * u)) = kd := by
  unfold drN
  rw [vu_ne (show 9 + (8 * u) ≠ 0 by omega), vu_ne (show 9 + (8 * u) ≠ (9 + (8 * u)) + 7 by omega), vu_ne (show 9 + (8 * u) ≠ (9 + (8 * u)) + 6 by omega), vu_ne (show 9 + (8 * u) ≠ (9 + (8 * u)) + 5 by omega), vu_ne (show 9 + (8 * u) ≠ (9 + (8 * u)) + 4 by omega), vu_ne (show 9 + (8 * u) ≠ (9 + (8 * u)) + 3 by omega), vu_ne (show 9 + (8 * u) ≠ (9 + (8 * u)) + 2 by omega), vu_ne (show 9 + (8 * u) ≠ (9 + (8 * u)) + 1 by omega), vu_self]
theorem drN_2 {P : Nat → Nat} {u kd lo hi pr st up dn : Nat} : drN P u kd lo hi pr st up dn ((9 + (8 * u)) + 1) = lo := by
  unfold drN
  rw [vu_ne (show (9 + (8 * u)) + 1 ≠ 0 by omega), vu_ne (show (9 + (8 * u)) + 1 ≠ (9 + (8 * u)) + 7 by omega), vu_ne (show (9 + (8 * u)) + 1 ≠ (9 + (8 * u)) + 6 by omega), vu_ne (show (9 + (8 * u)) + 1 ≠ (9 + (8 * u)) + 5 by omega), vu_ne (show (9 + (8 * u)) + 1 ≠ (9 + (8 * u)) + 4 by omega), vu_ne (show (9 + (8 * u)) + 1 ≠ (9 + (8 * u)) + 3 by omega), vu_ne (show (9 + (8 * u)) + 1 ≠ (9 + (8 * u)) + 2 by omega), vu_self]
theorem drN_3 {P : Nat → Nat} {u kd lo hi pr st up dn : Nat} : drN P u kd lo hi pr st up dn ((9 + (8 * u)) + 2) = hi := by
  unfold drN
  rw [vu_ne (show (9 + (8 * u)) + 2 ≠ 0 by omega), vu_ne (show (9 + (8 * u)) + 2 ≠ (9 + (8 * u)) + 7 by omega), vu_ne (show (9 + (8 * u)) + 2 ≠ (9 + (8 * u)) + 6 by omega), vu_ne (show (9 + (8 * u)) + 2 ≠ (9 + (8 * u)) + 5 by omega), vu_ne (show (9 + (8 * u)) + 2 ≠ (9 + (8 * u)) + 4 by omega), vu_ne (show (9 + (8 * u)) + 2 ≠ (9 + (8 * u)) + 3 by omega), vu_self]
theorem drN_4 {P : Nat → Nat} {u kd lo hi pr st up dn : Nat} : drN P u kd lo hi pr st up dn ((9 + (8 * u)) + 3) = pr := by
  unfold drN
  rw [vu_ne (show (9 + (8 * u)) + 3 ≠ 0 by omega), vu_ne (show (9 + (8 * u)) + 3 ≠ (9 + (8 * u)) + 7 by omega), vu_ne (show (9 + (8 * u)) + 3 ≠ (9 + (8 * u)) + 6 by omega), vu_ne (show (9 + (8 * u)) + 3 ≠ (9 + (8 * u)) + 5 by omega), vu_ne (show (9 + (8 * u)) + 3 ≠ (9 + (8 * u)) + 4 by omega), vu_self]
theorem drN_5 {P : Nat → Nat} {u kd lo hi pr st up dn : Nat} : drN P u kd lo hi pr st up dn ((9 + (8 * u)) + 4) = st := by
  unfold drN
  rw [vu_ne (show (9 + (8 * u)) + 4 ≠ 0 by omega), vu_ne (show (9 + (8 * u)) + 4 ≠ (9 + (8 * u)) + 7 by omega), vu_ne (show (9 + (8 * u)) + 4 ≠ (9 + (8 * u)) + 6 by omega), vu_ne (show (9 + (8 * u)) + 4 ≠ (9 + (8 * u)) + 5 by omega), vu_self]
theorem drN_6 {P : Nat → Nat} {u kd lo hi pr st up dn : Nat} : drN P u kd lo hi pr st up dn ((9 + (8 * u)) + 5) = up := by
  unfold drN
  rw [vu_ne (show (9 + (8 * u)) + 5 ≠ 0 by omega), vu_ne (show (9 + (8 * u)) + 5 ≠ (9 + (8 * u)) + 7 by omega), vu_ne (show (9 + (8 * u)) + 5 ≠ (9 + (8 * u)) + 6 by omega), vu_self]
theorem drN_7 {P : Nat → Nat} {u kd lo hi pr st up dn : Nat} : drN P u kd lo hi pr st up dn ((9 + (8 * u)) + 6) = dn := by
  unfold drN
  rw [vu_ne (show (9 + (8 * u)) + 6 ≠ 0 by omega), vu_ne (show (9 + (8 * u)) + 6 ≠ (9 + (8 * u)) + 7 by omega), vu_self]
theorem drN_8 {P : Nat → Nat} {u kd lo hi pr st up dn : Nat} : drN P u kd lo hi pr st up dn ((9 + (8 * u)) + 7) = 0 := by
  unfold drN
  rw [vu_ne (show (9 + (8 * u)) + 7 ≠ 0 by omega), vu_self]
theorem drN_o {P : Nat → Nat} {u kd lo hi pr st up dn : Nat} {i : Nat} (h0 : i ≠ 0) (h : i < 9 + (8 * u) ∨ 9 + (8 * u) + 8 ≤ i) : drN P u kd lo hi pr st up dn i = P i := by
  unfold drN
  rw [vu_ne (show i ≠ 0 by omega), vu_ne (show i ≠ (9 + (8 * u)) + 7 by omega), vu_ne (show i ≠ (9 + (8 * u)) + 6 by omega), vu_ne (show i ≠ (9 + (8 * u)) + 5 by omega), vu_ne (show i ≠ (9 + (8 * u)) + 4 by omega), vu_ne (show i ≠ (9 + (8 * u)) + 3 by omega), vu_ne (show i ≠ (9 + (8 * u)) + 2 by omega), vu_ne (show i ≠ (9 + (8 * u)) + 1 by omega), vu_ne (show i ≠ 9 + (8 * u) by omega)]
theorem drN_m {w : Nat → Int32} {P : Nat → Nat} {u kd lo hi pr st up dn : Nat} (h : mD w P) : mD (drU w u (nI kd) lo hi pr st up dn) (drN P u kd lo hi pr st up dn) := by
  unfold drU drN
  rw [upd_eq, upd_eq, upd_eq, upd_eq, upd_eq, upd_eq, upd_eq, upd_eq, upd_eq]
  exact mD_up (mD_up (v := 0) (mD_up (mD_up (mD_up (mD_up (mD_up (mD_up (mD_up h))))))))
def dH (r : Nat) (P : Nat → Nat) (j : Nat) (dem : Nat → Int32) : Prop := P 0 = 0 ∧ P 1 = j ∧ (P 2 = r ∧ r ≤ 20) ∧ ∀ h, h < j → dem h = nI (P (3 + h)) ∧ P (3 + h) ≤ 60
def dU (P : Nat → Nat) (k : Nat) (kin low hig pri sta ups dow : Nat → Int32) : Prop := P 0 = k ∧ ∀ u, u < k → (kin u = nI (P (9 + (8 * u))) ∧ low u = nI (P ((9 + (8 * u)) + 1)) ∧ hig u = nI (P ((9 + (8 * u)) + 2)) ∧ pri u = nI (P ((9 + (8 * u)) + 3)) ∧ sta u = nI (P ((9 + (8 * u)) + 4)) ∧ ups u = nI (P ((9 + (8 * u)) + 5)) ∧ dow u = nI (P ((9 + (8 * u)) + 6)) ∧ P ((9 + (8 * u)) + 7) = 0) ∧ nOKu P u
theorem vu_vu {α : Type} {f : Nat → α} {k : Nat} {a b : α} : va_up (va_up f k a) k b = va_up f k b := by
  funext j
  by_cases c : j = k
  · rw [c, vu_self, vu_self]
  · rw [vu_ne c, vu_ne c, vu_ne c]
theorem dU_step {P : Nat → Nat} {u kd lo hi pr st up dn : Nat} {kin low hig pri sta ups dow : Nat → Int32} (h : dU P u kin low hig pri sta ups dow) (hr : lo ≤ 20 ∧ lo ≤ hi ∧ hi ≤ 30 ∧ (1 ≤ pr ∧ pr ≤ 9) ∧ st ≤ 40 ∧ (1 ≤ up ∧ up ≤ 3) ∧ (1 ≤ dn ∧ dn ≤ 3)) (hk : 1 ≤ kd ∧ kd ≤ 5) : dU (drN P u kd lo hi pr st up dn) (u + 1) (upd kin u (nI kd)) (upd low u (nI lo)) (upd hig u (nI hi)) (upd pri u (nI pr)) (upd sta u (nI st)) (upd ups u (nI up)) (upd dow u (nI dn)) := by
  obtain ⟨h0, h1⟩ := h
  refine ⟨drN_0, fun w hw => ?_⟩
  have z1 : drN P u kd lo hi pr st up dn 1 = P 1 := drN_o (by omega) (by omega)
  unfold nOKu
  rw [z1]
  by_cases c : w = u
  · subst c
    rw [pk_us, pk_us, pk_us, pk_us, pk_us, pk_us, pk_us, drN_1, drN_2, drN_3, drN_4, drN_5, drN_6, drN_7, drN_8]
    obtain ⟨r1, r2, r3, r4, r5, r6, r7⟩ := hr
    exact ⟨⟨rfl, rfl, rfl, rfl, rfl, rfl, rfl, rfl⟩, hk, r1, r2, r3, r4, r5, r6, r7, Nat.pow_pos (by decide)⟩
  · rw [pk_un c, pk_un c, pk_un c, pk_un c, pk_un c, pk_un c, pk_un c, drN_o (i := 9 + (8 * w)) (by omega) (by omega), drN_o (i := (9 + (8 * w)) + 1) (by omega) (by omega), drN_o (i := (9 + (8 * w)) + 2) (by omega) (by omega), drN_o (i := (9 + (8 * w)) + 3) (by omega) (by omega), drN_o (i := (9 + (8 * w)) + 4) (by omega) (by omega), drN_o (i := (9 + (8 * w)) + 5) (by omega) (by omega), drN_o (i := (9 + (8 * w)) + 6) (by omega) (by omega), drN_o (i := (9 + (8 * w)) + 7) (by omega) (by omega)]
    exact h1 w (by omega)
section TP4
variable {tape : Nat → Int32} {k0 : Int32} {ln : Nat}
theorem hL_bad : ∀ n j H dem at_ fl, ¬ fl = 0 → f_Tape_readHours_L2 tape ln n j H dem at_ fl = (j, H, dem, at_, fl) := by
  intro n
  cases n with
  | zero => intro j H dem at_ fl _; rfl
  | succ n =>
    intro j H dem at_ fl hf
    rw [f_Tape_readHours_L2, if_neg hf, ite_self]
theorem mL_bad {fk fp : Int32} {mat mst : Nat} {tok mval : Int32} {W : Nat → Nat → Int32} (hw : f_Model_isWell fp = 0) : ∀ n, f_Model_day_L95 tape ln n fk fp mat mst tok mval W = (fk, fp, mat, mst, tok, mval, W) := by
  intro n
  cases n with
  | zero => rfl
  | succ n => rw [f_Model_day_L95, if_pos hw]
theorem uL_bad : ∀ n j U kin low hig pri sta ups dow at_ fl, ¬ fl = 0 → f_Tape_readUnits_L2 tape ln n j U kin low hig pri sta ups dow at_ fl = (j, U, kin, low, hig, pri, sta, ups, dow, at_, fl) := by
  intro n
  cases n with
  | zero => intro j U kin low hig pri sta ups dow at_ fl _; rfl
  | succ n =>
    intro j U kin low hig pri sta ups dow at_ fl hf
    rw [f_Tape_readUnits_L2, if_neg hf, ite_self]
theorem vL_bad {fk fp : Int32} {mat mst : Nat} {tok mval : Int32} {W : Nat → Nat → Int32} (hw : f_Model_isWell fp = 0) : ∀ n, f_Model_day_L144 tape ln n fk fp mat mst tok mval W = (fk, fp, mat, mst, tok, mval, W) := by
  intro n
  cases n with
  | zero => rfl
  | succ n => rw [f_Model_day_L144, if_pos hw]
theorem hour_step {at_ : Nat} {fk fp : Int32} {mat mst : Nat} {tok mval : Int32} {j : Nat} {W : Nat → Nat → Int32} {q1 : Nat × Int32} {q2 : Int32 × Nat × Int32} {q3 : Nat × Int32} {M : Int32 × Int32 × Nat × Nat × Int32 × Int32 × (Nat → Nat → Int32)} (hl : ln ≤ 120) (h : pS k0 tape ln at_ 0 fk fp mat mst tok mval) (hb : f_Model_byteAt tape ln at_ = 104) (hj : j < 6)
    (c1 : f_Tape_readSign tape ln at_ 0 104 = q1) (c2 : f_Tape_readNumber tape ln q1.1 q1.2 0 60 = q2) (c3 : f_Tape_readSign tape ln q2.2.1 q2.2.2 59 = q3) (hM : f_Model_readsHour tape ln fk fp mat mst tok mval W j = M) :
    pS k0 tape ln q3.1 q3.2 M.1 M.2.1 M.2.2.1 M.2.2.2.1 M.2.2.2.2.1 M.2.2.2.2.2.1 ∧ (q3.2 = 0 → ∃ v, v ≤ 60 ∧ q2.1 = nI v ∧ M.2.2.2.2.2.2 = va_up W 1 (upd (upd (W 1) (3 + j) (nI v)) 1 (nI (j + 1)))) := by
  obtain ⟨g1, g2, g3⟩ := pS_good h rfl
  obtain ⟨e1, e2, e3, e4, e5, e6, e7⟩ := adv_facts hl h.1 g3
  have htok : tok = 1 := e4.mpr (by rw [hb]; decide)
  have hmat := e6 (Or.inl htok)
  have hnu : nI j < (6 : Int32) := nI_lt (b := 6) hj (by omega)
  unfold f_Model_readsHour at hM
  rw [iteT hnu] at hM
  obtain ⟨s1, s2⟩ := sign_step (z := 1) (sg := 104) hl (by decide) h (fun _ => Or.inl ⟨rfl, hb, hmat⟩) c1 rfl
  rw [takes_yes g2] at hM s1
  dsimp only at hM s1
  generalize f_Model_advances tape ln mat = A at hM s1
  generalize m2 : f_Model_figure tape ln fk fp A.1 A.2.1 A.2.2.1 A.2.2.2 (0 : Int32) (60 : Int32) = p2 at hM
  obtain ⟨n1, n2, n3, n4⟩ := num_step (b := 60) hl s1 (fun _ => ⟨0, by omega, rfl⟩) rfl (by omega) c2 m2
  generalize m3 : f_Model_takes tape ln p2.2.1 p2.2.2.1 p2.2.2.2.1 p2.2.2.2.2.1 p2.2.2.2.2.2.1 p2.2.2.2.2.2.2 (if p2.2.2.2.2.2.1 = (4 : Int32) then (1 : Int32) else (0 : Int32)) (1 : Int32) = p3 at hM
  obtain ⟨t1, t2⟩ := sign_step (sg := 59) hl (by decide) n1 (stop_z hl n1) c3 m3
  by_cases hf : q3.2 = 0
  · obtain ⟨w1, w2, w3⟩ := pS_good t1 hf
    rw [w2, iteF (show ¬ (1 : Int32) = 0 by decide)] at hM
    subst hM
    dsimp only
    refine ⟨t1, fun _ => ?_⟩
    obtain ⟨a, v, b1, d1, y1, z1, w11⟩ := n4 (t2 hf)
    refine ⟨v, w11, y1, ?_⟩
    rw [vu_self, vu_vu, ← n3, y1]
  · have w := pS_bad hl t1 hf
    rw [if_pos w] at hM
    subst hM
    dsimp only
    exact ⟨t1, fun z => absurd z hf⟩
end TP4
