set_option maxRecDepth 20000 in
set_option maxHeartbeats 4000000 in
theorem c_init4 {G : mG} {h : mHp} {r : Nat} (he : h r = some (.inr (4, [.null, .null, .null]))) : RetC G 1 11 344 (r + 1) mX4_init [.ref r] h none (ov h r (rowL r (fun _ _ => 0) (fun _ => 0) (f_fillI 8 (fun _ => 0) (-1)))) := by
  refine RetC.ofI [(0, .ref r)] (by decide) rfl (Nat.le_of_ble_eq_true rfl) rfl ?_
  rintro Z rfl X A Y J O
  refine SW.heq (h2 := ov h r [.inr (4, [.null, .null, .null])]) (ov_self (fun j c hj => by cases j with | zero => exact (Option.some.inj hj) ▸ he | succ j => cases hj)).symm ?_
  refine r_aload_n X 0 dX4_init_0 rfl ?_
  refine r_obj X (by decide) (wG 107 (by decide +kernel) (by decide +kernel)) wOi wOc (Nat.zero_le _) dX4_init_1 ?_
  refine r_aload_n X 0 dX4_init_4 rfl ?_
  refine r_bipush X (nI 8) dX4_init_5 (by decide) ?_
  refine r_bipush X (nI 40) dX4_init_7 (by decide) ?_
  refine r_mna X A O (by decide) (by decide) (wG 108 (by decide +kernel) (by decide +kernel)) (Or.inl rfl) (by decide) (by decide) dX4_init_9 ?_
  refine SW.heq (h2 := ov h r [.inr (4, [.null, .null, .null]), .inl (4, 8, .inr (.inr (.inr (.inr (fun i => if i < 8 then some (r + 1 + 1 + i) else none))))), .inl (0, 40, .inl (fun _ => 0)), .inl (0, 40, .inl (fun _ => 0)), .inl (0, 40, .inl (fun _ => 0)), .inl (0, 40, .inl (fun _ => 0)), .inl (0, 40, .inl (fun _ => 0)), .inl (0, 40, .inl (fun _ => 0)), .inl (0, 40, .inl (fun _ => 0)), .inl (0, 40, .inl (fun _ => 0))]) (ov_cat rfl rfl) ?_
  refine SW.recell (a := r + 1) (g := fun i => some (r + (2 + i))) (ov_isV (d := r) 1 _ rfl) (fun i hi => by rw [if_pos hi]; exact congrArg some (by omega)) ?_
  refine SW.heq (h2 := ov h r [.inr (4, [.null, .null, .null]), .inl (4, 8, .inr (.inr (.inr (.inr (fun i => some (r + (2 + i))))))), .inl (0, 40, .inl (fun _ => 0)), .inl (0, 40, .inl (fun _ => 0)), .inl (0, 40, .inl (fun _ => 0)), .inl (0, 40, .inl (fun _ => 0)), .inl (0, 40, .inl (fun _ => 0)), .inl (0, 40, .inl (fun _ => 0)), .inl (0, 40, .inl (fun _ => 0)), .inl (0, 40, .inl (fun _ => 0))]) (ov_up 1 (Nat.le_of_ble_eq_true rfl) rfl) ?_
  have X := mCx.gk (k := 1 + 8) (j := 8 + 8 * 40) X A (by decide) (by decide)
  have Y : mEndC _ (r + 1) 11 344 9 none none _ := mEndC.gk (k := 1 + 8) (j := 8 + 8 * 40) Y A
  have J := mIn.gk (k := 1 + 8) (j := 8 + 8 * 40) J
  have O := mCo.gk (k := 1 + 8) (j := 8 + 8 * 40) O
  have A : mAl _ (r + 1) 11 344 9 328 := mAl.gk (k := 1 + 8) (j := 8 + 8 * 40) A
  refine r_putF X J (ref := RX4) inG4 tyX4 tyX4_ok nmX4 rfl 0 (by decide) (wG 113 (by decide +kernel) (by decide +kernel)) rfl rfl rfl rfl rfl dX4_init_13 (ov_isV (d := r) 0 _ rfl) (Nat.le_of_ble_eq_true rfl) ?_
  refine SW.heq (h2 := ov h r [.inr (4, [.ref (r + 1), .null, .null]), .inl (4, 8, .inr (.inr (.inr (.inr (fun i => some (r + (2 + i))))))), .inl (0, 40, .inl (fun _ => 0)), .inl (0, 40, .inl (fun _ => 0)), .inl (0, 40, .inl (fun _ => 0)), .inl (0, 40, .inl (fun _ => 0)), .inl (0, 40, .inl (fun _ => 0)), .inl (0, 40, .inl (fun _ => 0)), .inl (0, 40, .inl (fun _ => 0)), .inl (0, 40, .inl (fun _ => 0))]) (ov_up 0 (Nat.succ_pos _) rfl) ?_
  refine r_aload_n X 0 dX4_init_16 rfl ?_
  refine r_bipush X (nI 8) dX4_init_17 (by decide) ?_
  refine r_newi X A (by decide) (Or.inr ⟨_, ov_isV (d := r) 9 _ rfl⟩) (by decide) (by decide) dX4_init_19 ?_
  refine SW.heq (h2 := ov h r [.inr (4, [.ref (r + 1), .null, .null]), .inl (4, 8, .inr (.inr (.inr (.inr (fun i => some (r + (2 + i))))))), .inl (0, 40, .inl (fun _ => 0)), .inl (0, 40, .inl (fun _ => 0)), .inl (0, 40, .inl (fun _ => 0)), .inl (0, 40, .inl (fun _ => 0)), .inl (0, 40, .inl (fun _ => 0)), .inl (0, 40, .inl (fun _ => 0)), .inl (0, 40, .inl (fun _ => 0)), .inl (0, 40, .inl (fun _ => 0)), .inl (0, 8, .inl (fun _ => 0))]) (ov_app rfl rfl) ?_
  have X := mCx.g1 (k := 8) X A (by decide) (by decide)
  have Y : mEndC _ (r + 1) 11 344 10 none none _ := mEndC.g1 (k := 8) Y A
  have J := mIn.g1 (k := 8) J
  have O := mCo.g1 (k := 8) O
  have A : mAl _ (r + 1) 11 344 10 336 := mAl.g1 (k := 8) A
  refine r_putF X J (ref := RX4) inG4 tyX4 tyX4_ok nmX4 rfl 1 (by decide) (wG 115 (by decide +kernel) (by decide +kernel)) rfl rfl rfl rfl rfl dX4_init_21 (ov_isV (d := r) 0 _ rfl) (Nat.le_of_ble_eq_true rfl) ?_
  refine SW.heq (h2 := ov h r [.inr (4, [.ref (r + 1), .ref (r + 10), .null]), .inl (4, 8, .inr (.inr (.inr (.inr (fun i => some (r + (2 + i))))))), .inl (0, 40, .inl (fun _ => 0)), .inl (0, 40, .inl (fun _ => 0)), .inl (0, 40, .inl (fun _ => 0)), .inl (0, 40, .inl (fun _ => 0)), .inl (0, 40, .inl (fun _ => 0)), .inl (0, 40, .inl (fun _ => 0)), .inl (0, 40, .inl (fun _ => 0)), .inl (0, 40, .inl (fun _ => 0)), .inl (0, 8, .inl (fun _ => 0))]) (ov_up 0 (Nat.succ_pos _) rfl) ?_
  refine r_aload_n X 0 dX4_init_24 rfl ?_
  refine r_bipush X (nI 8) dX4_init_25 (by decide) ?_
  refine r_newi X A (by decide) (Or.inr ⟨_, ov_isV (d := r) 10 _ rfl⟩) (by decide) (by decide) dX4_init_27 ?_
  refine SW.heq (h2 := ov h r [.inr (4, [.ref (r + 1), .ref (r + 10), .null]), .inl (4, 8, .inr (.inr (.inr (.inr (fun i => some (r + (2 + i))))))), .inl (0, 40, .inl (fun _ => 0)), .inl (0, 40, .inl (fun _ => 0)), .inl (0, 40, .inl (fun _ => 0)), .inl (0, 40, .inl (fun _ => 0)), .inl (0, 40, .inl (fun _ => 0)), .inl (0, 40, .inl (fun _ => 0)), .inl (0, 40, .inl (fun _ => 0)), .inl (0, 40, .inl (fun _ => 0)), .inl (0, 8, .inl (fun _ => 0)), .inl (0, 8, .inl (fun _ => 0))]) (ov_app rfl rfl) ?_
  have X := mCx.g1 (k := 8) X A (by decide) (by decide)
  have Y : mEndC _ (r + 1) 11 344 11 none none _ := mEndC.g1 (k := 8) Y A
  have J := mIn.g1 (k := 8) J
  have O := mCo.g1 (k := 8) O
  have A : mAl _ (r + 1) 11 344 11 344 := mAl.g1 (k := 8) A
  refine r_putF X J (ref := RX4) inG4 tyX4 tyX4_ok nmX4 rfl 2 (by decide) (wG 117 (by decide +kernel) (by decide +kernel)) rfl rfl rfl rfl rfl dX4_init_29 (ov_isV (d := r) 0 _ rfl) (Nat.le_of_ble_eq_true rfl) ?_
  refine SW.heq (h2 := ov h r [.inr (4, [.ref (r + 1), .ref (r + 10), .ref (r + 11)]), .inl (4, 8, .inr (.inr (.inr (.inr (fun i => some (r + (2 + i))))))), .inl (0, 40, .inl (fun _ => 0)), .inl (0, 40, .inl (fun _ => 0)), .inl (0, 40, .inl (fun _ => 0)), .inl (0, 40, .inl (fun _ => 0)), .inl (0, 40, .inl (fun _ => 0)), .inl (0, 40, .inl (fun _ => 0)), .inl (0, 40, .inl (fun _ => 0)), .inl (0, 40, .inl (fun _ => 0)), .inl (0, 8, .inl (fun _ => 0)), .inl (0, 8, .inl (fun _ => 0))]) (ov_up 0 (Nat.succ_pos _) rfl) ?_
  refine r_aload_n X 0 dX4_init_32 rfl ?_
  refine gf_X4_18 X dX4_init_33 (ov_isV (d := r) 0 _ rfl) rfl ?_
  refine r_iconst X (-1) dX4_init_36 (by decide) ?_
  refine cl_X4_21 X (by decide) dX4_init_37 (Nat.zero_le _) (c_fillI_up (ov_isV (d := r) 11 _ rfl) (by decide)) ?_
  refine SW.heq (h2 := ov h r [.inr (4, [.ref (r + 1), .ref (r + 10), .ref (r + 11)]), .inl (4, 8, .inr (.inr (.inr (.inr (fun i => some (r + (2 + i))))))), .inl (0, 40, .inl (fun _ => 0)), .inl (0, 40, .inl (fun _ => 0)), .inl (0, 40, .inl (fun _ => 0)), .inl (0, 40, .inl (fun _ => 0)), .inl (0, 40, .inl (fun _ => 0)), .inl (0, 40, .inl (fun _ => 0)), .inl (0, 40, .inl (fun _ => 0)), .inl (0, 40, .inl (fun _ => 0)), .inl (0, 8, .inl (fun _ => 0)), .inl (0, 8, .inl (f_fillI 8 (fun _ => 0) (-1)))]) (ov_up 11 (Nat.le_of_ble_eq_true rfl) rfl) ?_
  exact r_return X (mEndC.fin Y A) dX4_init_40 rfl rfl
def dOn (n k : Nat) : Int32 := (if n % 3 = 0 then (0 : Int32) else 1) <<< (nI k &&& 31)
def dSt (n k : Nat) : Int32 := (if n % 3 = 2 then (1 : Int32) else 0) <<< (nI k &&& 31)
def lyS (d : Nat → Nat → Int32) (f : Nat → Int32) (c n k : Nat) : Nat → Int32 := upd f c (f c ||| d n k)
def lyA (d : Nat → Nat → Int32) : Nat → Nat → Int32
  | 0 => fun _ => 0
  | c + 1 => lyS d (lyS d (lyS d (lyS d (lyA d c) c c 0) c (c / 3) 1) c (c / 3 / 3) 2) c (c / 3 / 3 / 3) 3
def lyV (d : Nat → Nat → Int32) (c : Nat) : Int32 := (((0 ||| d c 0) ||| d (c / 3) 1) ||| d (c / 3 / 3) 2) ||| d (c / 3 / 3 / 3) 3
theorem lyS_at {d : Nat → Nat → Int32} {f : Nat → Int32} {c n k : Nat} : lyS d f c n k c = (f c ||| d n k) := by unfold lyS upd; rw [if_pos rfl]
theorem lyS_ne {d : Nat → Nat → Int32} {f : Nat → Int32} {c n k j : Nat} (h : j ≠ c) : lyS d f c n k j = f j := by unfold lyS upd; rw [if_neg h]
theorem lyA_eq {d : Nat → Nat → Int32} : ∀ n j, lyA d n j = if j < n then lyV d j else 0 := by
  intro n
  induction n with
  | zero => intro j; rw [if_neg (Nat.not_lt_zero _)]; rfl
  | succ n ih =>
    intro j
    show lyS d (lyS d (lyS d (lyS d (lyA d n) n n 0) n (n / 3) 1) n (n / 3 / 3) 2) n (n / 3 / 3 / 3) 3 j = _
    by_cases e : j = n
    · subst e
      rw [lyS_at, lyS_at, lyS_at, lyS_at, ih, if_neg (Nat.lt_irrefl _), if_pos (Nat.lt_succ_self _)]
      rfl
    · rw [lyS_ne e, lyS_ne e, lyS_ne e, lyS_ne e, ih]
      by_cases q : j < n
      · rw [if_pos q, if_pos (by omega)]
      · rw [if_neg q, if_neg (by omega)]
theorem lyV_tbl : ∀ c, c < 81 → lyV dOn c = nI (onC c) ∧ lyV dSt c = nI (stC c) := by decide +kernel
theorem lyA_tbl : tbl (lyA dOn 81) (lyA dSt 81) := by
  intro c hc
  rw [lyA_eq, lyA_eq, if_pos hc, if_pos hc]
  exact lyV_tbl c hc
def seZ (sb : Nat) (f g : Nat → Int32) : List mC := seaL sb f g (fun _ => 0) (fun _ => 0) (fun _ => 0) (fun _ => 0) (fun _ => 0) (fun _ _ => 0) (fun _ _ => 0) (fun _ _ => 0) 0 1 2 0 0 0

set_option maxRecDepth 20000 in
set_option maxHeartbeats 4000000 in
theorem se_in {h : mHp} {sb c n k : Nat} {f g : Nat → Int32} {Z : mZ} (X : mCx Z RX5 cX5_init 5 1) (hc : c < 81) (hn : n < 81) (hk : k < 4) (K : SW Z 120 [(0, .ref sb), (1, .int (nI c)), (2, .int (nI (n / 3))), (3, .int (nI (k + 1)))] [] (ov h sb (seZ sb (lyS dOn f c n k) (lyS dSt g c n k)))) : SW Z 120 [(0, .ref sb), (1, .int (nI c)), (2, .int (nI n)), (3, .int (nI k))] [] (ov h sb (seZ sb f g)) := by
  have h3 : n % 3 = 0 ∨ n % 3 = 1 ∨ n % 3 = 2 := by omega
  refine r_iload_n X 3 dX5_init_120 rfl ?_
  refine r_iconst X (nI 4) dX5_init_121 (by decide) ?_
  refine r_icmp_ge X 183 dX5_init_122 rfl (fun q => absurd (nI_lt hk (by decide)) q) (fun _ => ?_)
  refine r_iload_n X 2 dX5_init_125 rfl ?_
  refine r_iconst X (nI 3) dX5_init_126 (by decide) ?_
  refine r_iremn X dX5_init_127 (by omega) (by decide) (by decide) ?_
  refine r_istore [(0, .ref sb), (1, .int (nI c)), (2, .int (nI n)), (3, .int (nI k)), (4, .int (nI (n % 3)))] X dX5_init_128 (by decide) rfl ?_
  refine r_aload_n X 0 dX5_init_130 rfl ?_
  refine gf_X5_9 X dX5_init_131 (ov_isV (d := sb) 0 _ rfl) rfl ?_
  refine r_iload_n X 1 dX5_init_134 rfl ?_
  refine r_dup2 X dX5_init_135 rfl rfl ?_
  refine r_ialdn X (k0 := c) dX5_init_136 (ov_isV (d := sb) 1 _ rfl) hc (by decide) ?_
  refine r_iload X 4 dX5_init_137 rfl ?_
  refine m_join (P := SW Z 147 [(0, .ref sb), (1, .int (nI c)), (2, .int (nI n)), (3, .int (nI k)), (4, .int (nI (n % 3)))] (.int (if n % 3 = 0 then (0 : Int32) else 1) :: .int (f c) :: .int (nI c) :: .ref (sb + 1) :: []) (ov h sb (seZ sb f g))) (fun J1 => ?_) ?_
  · refine r_if_ne X 146 dX5_init_139 rfl (fun q => ?_) (fun q => ?_)
    · rcases h3 with e | e | e
      · exact absurd (by rw [e]; decide) q
      · rw [if_neg (by omega)] at J1
        exact r_iconst X 1 dX5_init_146 (by decide) J1
      · rw [if_neg (by omega)] at J1
        exact r_iconst X 1 dX5_init_146 (by decide) J1
    · rcases h3 with e | e | e
      · rw [if_pos e] at J1
        exact r_iconst X 0 dX5_init_142 (by decide) (r_goto X 147 dX5_init_143 rfl J1)
      · rw [e] at q; exact absurd q (by decide)
      · rw [e] at q; exact absurd q (by decide)
  refine r_iload_n X 3 dX5_init_147 rfl ?_
  refine r_ishl X dX5_init_148 ?_
  refine r_ior X dX5_init_149 ?_
  refine r_iastn X (k0 := c) dX5_init_150 (ov_isV (d := sb) 1 _ rfl) hc (by decide) ?_
  refine SW.heq (h2 := (ov h sb (seZ sb (lyS dOn f c n k) g))) (ov_up 1 (Nat.le_of_ble_eq_true rfl) rfl) ?_
  refine r_aload_n X 0 dX5_init_151 rfl ?_
  refine gf_X5_15 X dX5_init_152 (ov_isV (d := sb) 0 _ rfl) rfl ?_
  refine r_iload_n X 1 dX5_init_155 rfl ?_
  refine r_dup2 X dX5_init_156 rfl rfl ?_
  refine r_ialdn X (k0 := c) dX5_init_157 (ov_isV (d := sb) 2 _ rfl) hc (by decide) ?_
  refine r_iload X 4 dX5_init_158 rfl ?_
  refine r_iconst X (nI 2) dX5_init_160 (by decide) ?_
  refine m_join (P := SW Z 169 [(0, .ref sb), (1, .int (nI c)), (2, .int (nI n)), (3, .int (nI k)), (4, .int (nI (n % 3)))] (.int (if n % 3 = 2 then (1 : Int32) else 0) :: .int (g c) :: .int (nI c) :: .ref (sb + 2) :: []) (ov h sb (seZ sb (lyS dOn f c n k) g))) (fun J1 => ?_) ?_
  · refine r_icmp_ne X 168 dX5_init_161 rfl (fun q => ?_) (fun q => ?_)
    · rcases h3 with e | e | e
      · rw [if_neg (by omega)] at J1
        exact r_iconst X 0 dX5_init_168 (by decide) J1
      · rw [if_neg (by omega)] at J1
        exact r_iconst X 0 dX5_init_168 (by decide) J1
      · exact absurd (by rw [e]) q
    · rcases h3 with e | e | e
      · rw [e] at q; exact absurd q (by decide)
      · rw [e] at q; exact absurd q (by decide)
      · rw [if_pos e] at J1
        exact r_iconst X 1 dX5_init_164 (by decide) (r_goto X 169 dX5_init_165 rfl J1)
  refine r_iload_n X 3 dX5_init_169 rfl ?_
  refine r_ishl X dX5_init_170 ?_
  refine r_ior X dX5_init_171 ?_
  refine r_iastn X (k0 := c) dX5_init_172 (ov_isV (d := sb) 2 _ rfl) hc (by decide) ?_
  refine SW.heq (h2 := (ov h sb (seZ sb (lyS dOn f c n k) (lyS dSt g c n k)))) (ov_up 2 (Nat.le_of_ble_eq_true rfl) rfl) ?_
  refine r_iload_n X 2 dX5_init_173 rfl ?_
  refine r_iconst X (nI 3) dX5_init_174 (by decide) ?_
  refine r_idivn X dX5_init_175 (by omega) (by decide) (by decide) ?_
  refine r_istore_n [(0, .ref sb), (1, .int (nI c)), (2, .int (nI (n / 3))), (3, .int (nI k)), (4, .int (nI (n % 3)))] X dX5_init_176 rfl (by decide) rfl ?_
  refine r_iinc [(0, .ref sb), (1, .int (nI c)), (2, .int (nI (n / 3))), (3, .int (nI (k + 1))), (4, .int (nI (n % 3)))] X (nI (k + 1)) 3 dX5_init_177 rfl (nI_succ _).symm (by decide) rfl ?_
  refine r_goto X 120 dX5_init_180 rfl ?_
  exact SW.pick [0, 1, 2, 3] _ rfl K
set_option maxRecDepth 20000 in
set_option maxHeartbeats 4000000 in
theorem se_out {h : mHp} {sb : Nat} {Z : mZ} (X : mCx Z RX5 cX5_init 5 1) (Y : mEnd Z none none (ov h sb (seZ sb (lyA dOn 81) (lyA dSt 81)))) : SW Z 110 [(0, .ref sb), (1, .int (nI 0))] [] (ov h sb (seZ sb (lyA dOn 0) (lyA dSt 0))) := by
  refine loop_up (P := fun c => SW Z 110 [(0, .ref sb), (1, .int (nI c))] [] (ov h sb (seZ sb (lyA dOn c) (lyA dSt c)))) 81 ?_ ?_ 0 (Nat.zero_le _)
  · refine r_iload_n X 1 dX5_init_110 rfl ?_
    refine r_bipush X (nI 81) dX5_init_111 (by decide) ?_
    refine r_icmp_ge X 189 dX5_init_113 rfl (fun _ => ?_) (fun q => absurd q (by decide))
    exact r_return X Y dX5_init_189 rfl rfl
  · intro c hc K
    refine r_iload_n X 1 dX5_init_110 rfl ?_
    refine r_bipush X (nI 81) dX5_init_111 (by decide) ?_
    refine r_icmp_ge X 189 dX5_init_113 rfl (fun q => absurd (nI_lt hc (by decide)) q) (fun _ => ?_)
    refine r_iload_n X 1 dX5_init_116 rfl ?_
    refine r_istore_n [(0, .ref sb), (1, .int (nI c)), (2, .int (nI c))] X dX5_init_117 rfl (by decide) rfl ?_
    refine r_iconst X (nI 0) dX5_init_118 (by decide) ?_
    refine r_istore_n [(0, .ref sb), (1, .int (nI c)), (2, .int (nI c)), (3, .int (nI 0))] X dX5_init_119 rfl (by decide) rfl ?_
    refine se_in X hc hc (by decide) ?_
    refine se_in X hc (by omega) (by decide) ?_
    refine se_in X hc (by omega) (by decide) ?_
    refine se_in X hc (by omega) (by decide) ?_
    refine r_iload_n X 3 dX5_init_120 rfl ?_
    refine r_iconst X (nI 4) dX5_init_121 (by decide) ?_
    refine r_icmp_ge X 183 dX5_init_122 rfl (fun _ => ?_) (fun q => absurd q (by decide))
    refine SW.pick [0, 1] [(0, .ref sb), (1, .int (nI c))] rfl ?_
    refine r_iinc [(0, .ref sb), (1, .int (nI (c + 1)))] X (nI (c + 1)) 1 dX5_init_183 rfl (nI_succ _).symm (by decide) rfl ?_
    exact r_goto X 110 dX5_init_186 rfl K

set_option maxRecDepth 20000 in
set_option maxHeartbeats 4000000 in
theorem c_init5 {G : mG} {h : mHp} {sb : Nat} (he : h sb = some (.inr (5, [.null, .null, .null, .null, .null, .null, .null, .null, .null, .null, .null, .null, .int 0, .int 0, .int 0]))) : RetC G 1 20 5572 (sb + 1) mX5_init [.ref sb] h none (ov h sb (seZ sb (lyA dOn 81) (lyA dSt 81))) := by
  refine RetC.ofI [(0, .ref sb)] (by decide) rfl (Nat.le_of_ble_eq_true rfl) rfl ?_
  rintro Z rfl X A Y J O
  refine SW.heq (h2 := ov h sb [.inr (5, [.null, .null, .null, .null, .null, .null, .null, .null, .null, .null, .null, .null, .int 0, .int 0, .int 0])]) (ov_self (fun j c hj => by cases j with | zero => exact (Option.some.inj hj) ▸ he | succ j => cases hj)).symm ?_
  refine r_aload_n X 0 dX5_init_0 rfl ?_
  refine r_obj X (by decide) (wG 269 (by decide +kernel) (by decide +kernel)) wOi wOc (Nat.zero_le _) dX5_init_1 ?_
  refine r_aload_n X 0 dX5_init_4 rfl ?_
  refine r_bipush X (nI 81) dX5_init_5 (by decide) ?_
  refine r_newi X A (by decide) (Or.inl rfl) (by decide) (by decide) dX5_init_7 ?_
  refine SW.heq (h2 := ov h sb [.inr (5, [.null, .null, .null, .null, .null, .null, .null, .null, .null, .null, .null, .null, .int 0, .int 0, .int 0]), .inl (0, 81, .inl (fun _ => 0))]) (ov_app rfl rfl) ?_
  have X := mCx.g1 (k := 81) X A (by decide) (by decide)
  have Y : mEndC _ (sb + 1) 20 5572 1 none none _ := mEndC.g1 (k := 81) Y A
  have J := mIn.g1 (k := 81) J
  have O := mCo.g1 (k := 81) O
  have A : mAl _ (sb + 1) 20 5572 1 81 := mAl.g1 (k := 81) A
  refine r_putF X J (ref := RX5) inG5 tyX5 tyX5_ok nmX5 rfl 0 (by decide) (wG 271 (by decide +kernel) (by decide +kernel)) rfl rfl rfl rfl rfl dX5_init_9 (ov_isV (d := sb) 0 _ rfl) (Nat.le_of_ble_eq_true rfl) ?_
  refine SW.heq (h2 := ov h sb [.inr (5, [.ref (sb + 1), .null, .null, .null, .null, .null, .null, .null, .null, .null, .null, .null, .int 0, .int 0, .int 0]), .inl (0, 81, .inl (fun _ => 0))]) (ov_up 0 (Nat.succ_pos _) rfl) ?_
  refine r_aload_n X 0 dX5_init_12 rfl ?_
  refine r_bipush X (nI 81) dX5_init_13 (by decide) ?_
  refine r_newi X A (by decide) (Or.inr ⟨_, ov_isV (d := sb) 1 _ rfl⟩) (by decide) (by decide) dX5_init_15 ?_
  refine SW.heq (h2 := ov h sb [.inr (5, [.ref (sb + 1), .null, .null, .null, .null, .null, .null, .null, .null, .null, .null, .null, .int 0, .int 0, .int 0]), .inl (0, 81, .inl (fun _ => 0)), .inl (0, 81, .inl (fun _ => 0))]) (ov_app rfl rfl) ?_
  have X := mCx.g1 (k := 81) X A (by decide) (by decide)
  have Y : mEndC _ (sb + 1) 20 5572 2 none none _ := mEndC.g1 (k := 81) Y A
  have J := mIn.g1 (k := 81) J
  have O := mCo.g1 (k := 81) O
  have A : mAl _ (sb + 1) 20 5572 2 162 := mAl.g1 (k := 81) A
  refine r_putF X J (ref := RX5) inG5 tyX5 tyX5_ok nmX5 rfl 1 (by decide) (wG 272 (by decide +kernel) (by decide +kernel)) rfl rfl rfl rfl rfl dX5_init_17 (ov_isV (d := sb) 0 _ rfl) (Nat.le_of_ble_eq_true rfl) ?_
  refine SW.heq (h2 := ov h sb [.inr (5, [.ref (sb + 1), .ref (sb + 2), .null, .null, .null, .null, .null, .null, .null, .null, .null, .null, .int 0, .int 0, .int 0]), .inl (0, 81, .inl (fun _ => 0)), .inl (0, 81, .inl (fun _ => 0))]) (ov_up 0 (Nat.succ_pos _) rfl) ?_
  refine r_aload_n X 0 dX5_init_20 rfl ?_
  refine r_bipush X (nI 81) dX5_init_21 (by decide) ?_
  refine r_newj X A (by decide) (Or.inr ⟨_, ov_isV (d := sb) 2 _ rfl⟩) (by decide) (by decide) dX5_init_23 ?_
  refine SW.heq (h2 := ov h sb [.inr (5, [.ref (sb + 1), .ref (sb + 2), .null, .null, .null, .null, .null, .null, .null, .null, .null, .null, .int 0, .int 0, .int 0]), .inl (0, 81, .inl (fun _ => 0)), .inl (0, 81, .inl (fun _ => 0)), .inl (1, 81, .inr (.inl (fun _ => 0)))]) (ov_app rfl rfl) ?_
  have X := mCx.g1 (k := 81) X A (by decide) (by decide)
  have Y : mEndC _ (sb + 1) 20 5572 3 none none _ := mEndC.g1 (k := 81) Y A
  have J := mIn.g1 (k := 81) J
  have O := mCo.g1 (k := 81) O
  have A : mAl _ (sb + 1) 20 5572 3 243 := mAl.g1 (k := 81) A
  refine r_putF X J (ref := RX5) inG5 tyX5 tyX5_ok nmX5 rfl 2 (by decide) (wG 273 (by decide +kernel) (by decide +kernel)) rfl rfl rfl rfl rfl dX5_init_25 (ov_isV (d := sb) 0 _ rfl) (Nat.le_of_ble_eq_true rfl) ?_
  refine SW.heq (h2 := ov h sb [.inr (5, [.ref (sb + 1), .ref (sb + 2), .ref (sb + 3), .null, .null, .null, .null, .null, .null, .null, .null, .null, .int 0, .int 0, .int 0]), .inl (0, 81, .inl (fun _ => 0)), .inl (0, 81, .inl (fun _ => 0)), .inl (1, 81, .inr (.inl (fun _ => 0)))]) (ov_up 0 (Nat.succ_pos _) rfl) ?_
  refine r_aload_n X 0 dX5_init_28 rfl ?_
  refine r_bipush X (nI 81) dX5_init_29 (by decide) ?_
  refine r_newj X A (by decide) (Or.inr ⟨_, ov_isV (d := sb) 3 _ rfl⟩) (by decide) (by decide) dX5_init_31 ?_
  refine SW.heq (h2 := ov h sb [.inr (5, [.ref (sb + 1), .ref (sb + 2), .ref (sb + 3), .null, .null, .null, .null, .null, .null, .null, .null, .null, .int 0, .int 0, .int 0]), .inl (0, 81, .inl (fun _ => 0)), .inl (0, 81, .inl (fun _ => 0)), .inl (1, 81, .inr (.inl (fun _ => 0))), .inl (1, 81, .inr (.inl (fun _ => 0)))]) (ov_app rfl rfl) ?_
  have X := mCx.g1 (k := 81) X A (by decide) (by decide)
  have Y : mEndC _ (sb + 1) 20 5572 4 none none _ := mEndC.g1 (k := 81) Y A
  have J := mIn.g1 (k := 81) J
  have O := mCo.g1 (k := 81) O
  have A : mAl _ (sb + 1) 20 5572 4 324 := mAl.g1 (k := 81) A
  refine r_putF X J (ref := RX5) inG5 tyX5 tyX5_ok nmX5 rfl 3 (by decide) (wG 274 (by decide +kernel) (by decide +kernel)) rfl rfl rfl rfl rfl dX5_init_33 (ov_isV (d := sb) 0 _ rfl) (Nat.le_of_ble_eq_true rfl) ?_
  refine SW.heq (h2 := ov h sb [.inr (5, [.ref (sb + 1), .ref (sb + 2), .ref (sb + 3), .ref (sb + 4), .null, .null, .null, .null, .null, .null, .null, .null, .int 0, .int 0, .int 0]), .inl (0, 81, .inl (fun _ => 0)), .inl (0, 81, .inl (fun _ => 0)), .inl (1, 81, .inr (.inl (fun _ => 0))), .inl (1, 81, .inr (.inl (fun _ => 0)))]) (ov_up 0 (Nat.succ_pos _) rfl) ?_
  refine r_aload_n X 0 dX5_init_36 rfl ?_
  refine r_sipush X (nI 1296) dX5_init_37 (by decide) ?_
  refine r_newi X A (by decide) (Or.inr ⟨_, ov_isV (d := sb) 4 _ rfl⟩) (by decide) (by decide) dX5_init_40 ?_
  refine SW.heq (h2 := ov h sb [.inr (5, [.ref (sb + 1), .ref (sb + 2), .ref (sb + 3), .ref (sb + 4), .null, .null, .null, .null, .null, .null, .null, .null, .int 0, .int 0, .int 0]), .inl (0, 81, .inl (fun _ => 0)), .inl (0, 81, .inl (fun _ => 0)), .inl (1, 81, .inr (.inl (fun _ => 0))), .inl (1, 81, .inr (.inl (fun _ => 0))), .inl (0, 1296, .inl (fun _ => 0))]) (ov_app rfl rfl) ?_
  have X := mCx.g1 (k := 1296) X A (by decide) (by decide)
  have Y : mEndC _ (sb + 1) 20 5572 5 none none _ := mEndC.g1 (k := 1296) Y A
  have J := mIn.g1 (k := 1296) J
  have O := mCo.g1 (k := 1296) O
  have A : mAl _ (sb + 1) 20 5572 5 1620 := mAl.g1 (k := 1296) A
  refine r_putF X J (ref := RX5) inG5 tyX5 tyX5_ok nmX5 rfl 4 (by decide) (wG 275 (by decide +kernel) (by decide +kernel)) rfl rfl rfl rfl rfl dX5_init_42 (ov_isV (d := sb) 0 _ rfl) (Nat.le_of_ble_eq_true rfl) ?_
  refine SW.heq (h2 := ov h sb [.inr (5, [.ref (sb + 1), .ref (sb + 2), .ref (sb + 3), .ref (sb + 4), .ref (sb + 5), .null, .null, .null, .null, .null, .null, .null, .int 0, .int 0, .int 0]), .inl (0, 81, .inl (fun _ => 0)), .inl (0, 81, .inl (fun _ => 0)), .inl (1, 81, .inr (.inl (fun _ => 0))), .inl (1, 81, .inr (.inl (fun _ => 0))), .inl (0, 1296, .inl (fun _ => 0))]) (ov_up 0 (Nat.succ_pos _) rfl) ?_
  refine r_aload_n X 0 dX5_init_45 rfl ?_
  refine r_iconst X (nI 4) dX5_init_46 (by decide) ?_
  refine r_newi X A (by decide) (Or.inr ⟨_, ov_isV (d := sb) 5 _ rfl⟩) (by decide) (by decide) dX5_init_47 ?_
  refine SW.heq (h2 := ov h sb [.inr (5, [.ref (sb + 1), .ref (sb + 2), .ref (sb + 3), .ref (sb + 4), .ref (sb + 5), .null, .null, .null, .null, .null, .null, .null, .int 0, .int 0, .int 0]), .inl (0, 81, .inl (fun _ => 0)), .inl (0, 81, .inl (fun _ => 0)), .inl (1, 81, .inr (.inl (fun _ => 0))), .inl (1, 81, .inr (.inl (fun _ => 0))), .inl (0, 1296, .inl (fun _ => 0)), .inl (0, 4, .inl (fun _ => 0))]) (ov_app rfl rfl) ?_
  have X := mCx.g1 (k := 4) X A (by decide) (by decide)
  have Y : mEndC _ (sb + 1) 20 5572 6 none none _ := mEndC.g1 (k := 4) Y A
  have J := mIn.g1 (k := 4) J
  have O := mCo.g1 (k := 4) O
  have A : mAl _ (sb + 1) 20 5572 6 1624 := mAl.g1 (k := 4) A
  refine r_putF X J (ref := RX5) inG5 tyX5 tyX5_ok nmX5 rfl 5 (by decide) (wG 276 (by decide +kernel) (by decide +kernel)) rfl rfl rfl rfl rfl dX5_init_49 (ov_isV (d := sb) 0 _ rfl) (Nat.le_of_ble_eq_true rfl) ?_
  refine SW.heq (h2 := ov h sb [.inr (5, [.ref (sb + 1), .ref (sb + 2), .ref (sb + 3), .ref (sb + 4), .ref (sb + 5), .ref (sb + 6), .null, .null, .null, .null, .null, .null, .int 0, .int 0, .int 0]), .inl (0, 81, .inl (fun _ => 0)), .inl (0, 81, .inl (fun _ => 0)), .inl (1, 81, .inr (.inl (fun _ => 0))), .inl (1, 81, .inr (.inl (fun _ => 0))), .inl (0, 1296, .inl (fun _ => 0)), .inl (0, 4, .inl (fun _ => 0))]) (ov_up 0 (Nat.succ_pos _) rfl) ?_
  refine r_aload_n X 0 dX5_init_52 rfl ?_
  refine r_iconst X (nI 4) dX5_init_53 (by decide) ?_
  refine r_newi X A (by decide) (Or.inr ⟨_, ov_isV (d := sb) 6 _ rfl⟩) (by decide) (by decide) dX5_init_54 ?_
  refine SW.heq (h2 := ov h sb [.inr (5, [.ref (sb + 1), .ref (sb + 2), .ref (sb + 3), .ref (sb + 4), .ref (sb + 5), .ref (sb + 6), .null, .null, .null, .null, .null, .null, .int 0, .int 0, .int 0]), .inl (0, 81, .inl (fun _ => 0)), .inl (0, 81, .inl (fun _ => 0)), .inl (1, 81, .inr (.inl (fun _ => 0))), .inl (1, 81, .inr (.inl (fun _ => 0))), .inl (0, 1296, .inl (fun _ => 0)), .inl (0, 4, .inl (fun _ => 0)), .inl (0, 4, .inl (fun _ => 0))]) (ov_app rfl rfl) ?_
  have X := mCx.g1 (k := 4) X A (by decide) (by decide)
  have Y : mEndC _ (sb + 1) 20 5572 7 none none _ := mEndC.g1 (k := 4) Y A
  have J := mIn.g1 (k := 4) J
  have O := mCo.g1 (k := 4) O
  have A : mAl _ (sb + 1) 20 5572 7 1628 := mAl.g1 (k := 4) A
  refine r_putF X J (ref := RX5) inG5 tyX5 tyX5_ok nmX5 rfl 6 (by decide) (wG 277 (by decide +kernel) (by decide +kernel)) rfl rfl rfl rfl rfl dX5_init_56 (ov_isV (d := sb) 0 _ rfl) (Nat.le_of_ble_eq_true rfl) ?_
  refine SW.heq (h2 := ov h sb [.inr (5, [.ref (sb + 1), .ref (sb + 2), .ref (sb + 3), .ref (sb + 4), .ref (sb + 5), .ref (sb + 6), .ref (sb + 7), .null, .null, .null, .null, .null, .int 0, .int 0, .int 0]), .inl (0, 81, .inl (fun _ => 0)), .inl (0, 81, .inl (fun _ => 0)), .inl (1, 81, .inr (.inl (fun _ => 0))), .inl (1, 81, .inr (.inl (fun _ => 0))), .inl (0, 1296, .inl (fun _ => 0)), .inl (0, 4, .inl (fun _ => 0)), .inl (0, 4, .inl (fun _ => 0))]) (ov_up 0 (Nat.succ_pos _) rfl) ?_
  refine r_aload_n X 0 dX5_init_59 rfl ?_
  refine r_iconst X (nI 4) dX5_init_60 (by decide) ?_
  refine r_bipush X (nI 6) dX5_init_61 (by decide) ?_
  refine r_mna X A O (by decide) (by decide) (wG 270 (by decide +kernel) (by decide +kernel)) (Or.inr ⟨_, ov_isV (d := sb) 7 _ rfl⟩) (by decide) (by decide) dX5_init_63 ?_
  refine SW.heq (h2 := ov h sb [.inr (5, [.ref (sb + 1), .ref (sb + 2), .ref (sb + 3), .ref (sb + 4), .ref (sb + 5), .ref (sb + 6), .ref (sb + 7), .null, .null, .null, .null, .null, .int 0, .int 0, .int 0]), .inl (0, 81, .inl (fun _ => 0)), .inl (0, 81, .inl (fun _ => 0)), .inl (1, 81, .inr (.inl (fun _ => 0))), .inl (1, 81, .inr (.inl (fun _ => 0))), .inl (0, 1296, .inl (fun _ => 0)), .inl (0, 4, .inl (fun _ => 0)), .inl (0, 4, .inl (fun _ => 0)), .inl (4, 4, .inr (.inr (.inr (.inr (fun i => if i < 4 then some (sb + 8 + 1 + i) else none))))), .inl (0, 6, .inl (fun _ => 0)), .inl (0, 6, .inl (fun _ => 0)), .inl (0, 6, .inl (fun _ => 0)), .inl (0, 6, .inl (fun _ => 0))]) (ov_cat rfl rfl) ?_
  refine SW.recell (a := sb + 8) (g := fun i => some (sb + (9 + i))) (ov_isV (d := sb) 8 _ rfl) (fun i hi => by rw [if_pos hi]; exact congrArg some (by omega)) ?_
  refine SW.heq (h2 := ov h sb [.inr (5, [.ref (sb + 1), .ref (sb + 2), .ref (sb + 3), .ref (sb + 4), .ref (sb + 5), .ref (sb + 6), .ref (sb + 7), .null, .null, .null, .null, .null, .int 0, .int 0, .int 0]), .inl (0, 81, .inl (fun _ => 0)), .inl (0, 81, .inl (fun _ => 0)), .inl (1, 81, .inr (.inl (fun _ => 0))), .inl (1, 81, .inr (.inl (fun _ => 0))), .inl (0, 1296, .inl (fun _ => 0)), .inl (0, 4, .inl (fun _ => 0)), .inl (0, 4, .inl (fun _ => 0)), .inl (4, 4, .inr (.inr (.inr (.inr (fun i => some (sb + (9 + i))))))), .inl (0, 6, .inl (fun _ => 0)), .inl (0, 6, .inl (fun _ => 0)), .inl (0, 6, .inl (fun _ => 0)), .inl (0, 6, .inl (fun _ => 0))]) (ov_up 8 (Nat.le_of_ble_eq_true rfl) rfl) ?_
  have X := mCx.gk (k := 1 + 4) (j := 4 + 4 * 6) X A (by decide) (by decide)
  have Y : mEndC _ (sb + 1) 20 5572 12 none none _ := mEndC.gk (k := 1 + 4) (j := 4 + 4 * 6) Y A
  have J := mIn.gk (k := 1 + 4) (j := 4 + 4 * 6) J
  have O := mCo.gk (k := 1 + 4) (j := 4 + 4 * 6) O
  have A : mAl _ (sb + 1) 20 5572 12 1656 := mAl.gk (k := 1 + 4) (j := 4 + 4 * 6) A
  refine r_putF X J (ref := RX5) inG5 tyX5 tyX5_ok nmX5 rfl 7 (by decide) (wG 278 (by decide +kernel) (by decide +kernel)) rfl rfl rfl rfl rfl dX5_init_67 (ov_isV (d := sb) 0 _ rfl) (Nat.le_of_ble_eq_true rfl) ?_
  refine SW.heq (h2 := ov h sb [.inr (5, [.ref (sb + 1), .ref (sb + 2), .ref (sb + 3), .ref (sb + 4), .ref (sb + 5), .ref (sb + 6), .ref (sb + 7), .ref (sb + 8), .null, .null, .null, .null, .int 0, .int 0, .int 0]), .inl (0, 81, .inl (fun _ => 0)), .inl (0, 81, .inl (fun _ => 0)), .inl (1, 81, .inr (.inl (fun _ => 0))), .inl (1, 81, .inr (.inl (fun _ => 0))), .inl (0, 1296, .inl (fun _ => 0)), .inl (0, 4, .inl (fun _ => 0)), .inl (0, 4, .inl (fun _ => 0)), .inl (4, 4, .inr (.inr (.inr (.inr (fun i => some (sb + (9 + i))))))), .inl (0, 6, .inl (fun _ => 0)), .inl (0, 6, .inl (fun _ => 0)), .inl (0, 6, .inl (fun _ => 0)), .inl (0, 6, .inl (fun _ => 0))]) (ov_up 0 (Nat.succ_pos _) rfl) ?_
  refine r_aload_n X 0 dX5_init_70 rfl ?_
  refine r_iconst X (nI 4) dX5_init_71 (by decide) ?_
  refine r_bipush X (nI 6) dX5_init_72 (by decide) ?_
  refine r_mna X A O (by decide) (by decide) (wG 270 (by decide +kernel) (by decide +kernel)) (Or.inr ⟨_, ov_isV (d := sb) 12 _ rfl⟩) (by decide) (by decide) dX5_init_74 ?_
  refine SW.heq (h2 := ov h sb [.inr (5, [.ref (sb + 1), .ref (sb + 2), .ref (sb + 3), .ref (sb + 4), .ref (sb + 5), .ref (sb + 6), .ref (sb + 7), .ref (sb + 8), .null, .null, .null, .null, .int 0, .int 0, .int 0]), .inl (0, 81, .inl (fun _ => 0)), .inl (0, 81, .inl (fun _ => 0)), .inl (1, 81, .inr (.inl (fun _ => 0))), .inl (1, 81, .inr (.inl (fun _ => 0))), .inl (0, 1296, .inl (fun _ => 0)), .inl (0, 4, .inl (fun _ => 0)), .inl (0, 4, .inl (fun _ => 0)), .inl (4, 4, .inr (.inr (.inr (.inr (fun i => some (sb + (9 + i))))))), .inl (0, 6, .inl (fun _ => 0)), .inl (0, 6, .inl (fun _ => 0)), .inl (0, 6, .inl (fun _ => 0)), .inl (0, 6, .inl (fun _ => 0)), .inl (4, 4, .inr (.inr (.inr (.inr (fun i => if i < 4 then some (sb + 13 + 1 + i) else none))))), .inl (0, 6, .inl (fun _ => 0)), .inl (0, 6, .inl (fun _ => 0)), .inl (0, 6, .inl (fun _ => 0)), .inl (0, 6, .inl (fun _ => 0))]) (ov_cat rfl rfl) ?_
  refine SW.recell (a := sb + 13) (g := fun i => some (sb + (14 + i))) (ov_isV (d := sb) 13 _ rfl) (fun i hi => by rw [if_pos hi]; exact congrArg some (by omega)) ?_
  refine SW.heq (h2 := ov h sb [.inr (5, [.ref (sb + 1), .ref (sb + 2), .ref (sb + 3), .ref (sb + 4), .ref (sb + 5), .ref (sb + 6), .ref (sb + 7), .ref (sb + 8), .null, .null, .null, .null, .int 0, .int 0, .int 0]), .inl (0, 81, .inl (fun _ => 0)), .inl (0, 81, .inl (fun _ => 0)), .inl (1, 81, .inr (.inl (fun _ => 0))), .inl (1, 81, .inr (.inl (fun _ => 0))), .inl (0, 1296, .inl (fun _ => 0)), .inl (0, 4, .inl (fun _ => 0)), .inl (0, 4, .inl (fun _ => 0)), .inl (4, 4, .inr (.inr (.inr (.inr (fun i => some (sb + (9 + i))))))), .inl (0, 6, .inl (fun _ => 0)), .inl (0, 6, .inl (fun _ => 0)), .inl (0, 6, .inl (fun _ => 0)), .inl (0, 6, .inl (fun _ => 0)), .inl (4, 4, .inr (.inr (.inr (.inr (fun i => some (sb + (14 + i))))))), .inl (0, 6, .inl (fun _ => 0)), .inl (0, 6, .inl (fun _ => 0)), .inl (0, 6, .inl (fun _ => 0)), .inl (0, 6, .inl (fun _ => 0))]) (ov_up 13 (Nat.le_of_ble_eq_true rfl) rfl) ?_
  have X := mCx.gk (k := 1 + 4) (j := 4 + 4 * 6) X A (by decide) (by decide)
  have Y : mEndC _ (sb + 1) 20 5572 17 none none _ := mEndC.gk (k := 1 + 4) (j := 4 + 4 * 6) Y A
  have J := mIn.gk (k := 1 + 4) (j := 4 + 4 * 6) J
  have O := mCo.gk (k := 1 + 4) (j := 4 + 4 * 6) O
  have A : mAl _ (sb + 1) 20 5572 17 1684 := mAl.gk (k := 1 + 4) (j := 4 + 4 * 6) A
  refine r_putF X J (ref := RX5) inG5 tyX5 tyX5_ok nmX5 rfl 8 (by decide) (wG 279 (by decide +kernel) (by decide +kernel)) rfl rfl rfl rfl rfl dX5_init_78 (ov_isV (d := sb) 0 _ rfl) (Nat.le_of_ble_eq_true rfl) ?_
  refine SW.heq (h2 := ov h sb [.inr (5, [.ref (sb + 1), .ref (sb + 2), .ref (sb + 3), .ref (sb + 4), .ref (sb + 5), .ref (sb + 6), .ref (sb + 7), .ref (sb + 8), .ref (sb + 13), .null, .null, .null, .int 0, .int 0, .int 0]), .inl (0, 81, .inl (fun _ => 0)), .inl (0, 81, .inl (fun _ => 0)), .inl (1, 81, .inr (.inl (fun _ => 0))), .inl (1, 81, .inr (.inl (fun _ => 0))), .inl (0, 1296, .inl (fun _ => 0)), .inl (0, 4, .inl (fun _ => 0)), .inl (0, 4, .inl (fun _ => 0)), .inl (4, 4, .inr (.inr (.inr (.inr (fun i => some (sb + (9 + i))))))), .inl (0, 6, .inl (fun _ => 0)), .inl (0, 6, .inl (fun _ => 0)), .inl (0, 6, .inl (fun _ => 0)), .inl (0, 6, .inl (fun _ => 0)), .inl (4, 4, .inr (.inr (.inr (.inr (fun i => some (sb + (14 + i))))))), .inl (0, 6, .inl (fun _ => 0)), .inl (0, 6, .inl (fun _ => 0)), .inl (0, 6, .inl (fun _ => 0)), .inl (0, 6, .inl (fun _ => 0))]) (ov_up 0 (Nat.succ_pos _) rfl) ?_
  refine r_aload_n X 0 dX5_init_81 rfl ?_
  refine r_sipush X (nI 1296) dX5_init_82 (by decide) ?_
  refine r_newj X A (by decide) (Or.inr ⟨_, ov_isV (d := sb) 17 _ rfl⟩) (by decide) (by decide) dX5_init_85 ?_
  refine SW.heq (h2 := ov h sb [.inr (5, [.ref (sb + 1), .ref (sb + 2), .ref (sb + 3), .ref (sb + 4), .ref (sb + 5), .ref (sb + 6), .ref (sb + 7), .ref (sb + 8), .ref (sb + 13), .null, .null, .null, .int 0, .int 0, .int 0]), .inl (0, 81, .inl (fun _ => 0)), .inl (0, 81, .inl (fun _ => 0)), .inl (1, 81, .inr (.inl (fun _ => 0))), .inl (1, 81, .inr (.inl (fun _ => 0))), .inl (0, 1296, .inl (fun _ => 0)), .inl (0, 4, .inl (fun _ => 0)), .inl (0, 4, .inl (fun _ => 0)), .inl (4, 4, .inr (.inr (.inr (.inr (fun i => some (sb + (9 + i))))))), .inl (0, 6, .inl (fun _ => 0)), .inl (0, 6, .inl (fun _ => 0)), .inl (0, 6, .inl (fun _ => 0)), .inl (0, 6, .inl (fun _ => 0)), .inl (4, 4, .inr (.inr (.inr (.inr (fun i => some (sb + (14 + i))))))), .inl (0, 6, .inl (fun _ => 0)), .inl (0, 6, .inl (fun _ => 0)), .inl (0, 6, .inl (fun _ => 0)), .inl (0, 6, .inl (fun _ => 0)), .inl (1, 1296, .inr (.inl (fun _ => 0)))]) (ov_app rfl rfl) ?_
  have X := mCx.g1 (k := 1296) X A (by decide) (by decide)
  have Y : mEndC _ (sb + 1) 20 5572 18 none none _ := mEndC.g1 (k := 1296) Y A
  have J := mIn.g1 (k := 1296) J
  have O := mCo.g1 (k := 1296) O
  have A : mAl _ (sb + 1) 20 5572 18 2980 := mAl.g1 (k := 1296) A
  refine pf_X5_42 X dX5_init_87 (ov_isV (d := sb) 0 _ rfl) (Nat.le_of_ble_eq_true rfl) ?_
  refine SW.heq (h2 := ov h sb [.inr (5, [.ref (sb + 1), .ref (sb + 2), .ref (sb + 3), .ref (sb + 4), .ref (sb + 5), .ref (sb + 6), .ref (sb + 7), .ref (sb + 8), .ref (sb + 13), .ref (sb + 18), .null, .null, .int 0, .int 0, .int 0]), .inl (0, 81, .inl (fun _ => 0)), .inl (0, 81, .inl (fun _ => 0)), .inl (1, 81, .inr (.inl (fun _ => 0))), .inl (1, 81, .inr (.inl (fun _ => 0))), .inl (0, 1296, .inl (fun _ => 0)), .inl (0, 4, .inl (fun _ => 0)), .inl (0, 4, .inl (fun _ => 0)), .inl (4, 4, .inr (.inr (.inr (.inr (fun i => some (sb + (9 + i))))))), .inl (0, 6, .inl (fun _ => 0)), .inl (0, 6, .inl (fun _ => 0)), .inl (0, 6, .inl (fun _ => 0)), .inl (0, 6, .inl (fun _ => 0)), .inl (4, 4, .inr (.inr (.inr (.inr (fun i => some (sb + (14 + i))))))), .inl (0, 6, .inl (fun _ => 0)), .inl (0, 6, .inl (fun _ => 0)), .inl (0, 6, .inl (fun _ => 0)), .inl (0, 6, .inl (fun _ => 0)), .inl (1, 1296, .inr (.inl (fun _ => 0)))]) (ov_up 0 (Nat.succ_pos _) rfl) ?_
  refine r_aload_n X 0 dX5_init_90 rfl ?_
  refine r_sipush X (nI 1296) dX5_init_91 (by decide) ?_
  refine r_newj X A (by decide) (Or.inr ⟨_, ov_isV (d := sb) 18 _ rfl⟩) (by decide) (by decide) dX5_init_94 ?_
  refine SW.heq (h2 := ov h sb [.inr (5, [.ref (sb + 1), .ref (sb + 2), .ref (sb + 3), .ref (sb + 4), .ref (sb + 5), .ref (sb + 6), .ref (sb + 7), .ref (sb + 8), .ref (sb + 13), .ref (sb + 18), .null, .null, .int 0, .int 0, .int 0]), .inl (0, 81, .inl (fun _ => 0)), .inl (0, 81, .inl (fun _ => 0)), .inl (1, 81, .inr (.inl (fun _ => 0))), .inl (1, 81, .inr (.inl (fun _ => 0))), .inl (0, 1296, .inl (fun _ => 0)), .inl (0, 4, .inl (fun _ => 0)), .inl (0, 4, .inl (fun _ => 0)), .inl (4, 4, .inr (.inr (.inr (.inr (fun i => some (sb + (9 + i))))))), .inl (0, 6, .inl (fun _ => 0)), .inl (0, 6, .inl (fun _ => 0)), .inl (0, 6, .inl (fun _ => 0)), .inl (0, 6, .inl (fun _ => 0)), .inl (4, 4, .inr (.inr (.inr (.inr (fun i => some (sb + (14 + i))))))), .inl (0, 6, .inl (fun _ => 0)), .inl (0, 6, .inl (fun _ => 0)), .inl (0, 6, .inl (fun _ => 0)), .inl (0, 6, .inl (fun _ => 0)), .inl (1, 1296, .inr (.inl (fun _ => 0))), .inl (1, 1296, .inr (.inl (fun _ => 0)))]) (ov_app rfl rfl) ?_
  have X := mCx.g1 (k := 1296) X A (by decide) (by decide)
  have Y : mEndC _ (sb + 1) 20 5572 19 none none _ := mEndC.g1 (k := 1296) Y A
  have J := mIn.g1 (k := 1296) J
  have O := mCo.g1 (k := 1296) O
  have A : mAl _ (sb + 1) 20 5572 19 4276 := mAl.g1 (k := 1296) A
  refine pf_X5_45 X dX5_init_96 (ov_isV (d := sb) 0 _ rfl) (Nat.le_of_ble_eq_true rfl) ?_
  refine SW.heq (h2 := ov h sb [.inr (5, [.ref (sb + 1), .ref (sb + 2), .ref (sb + 3), .ref (sb + 4), .ref (sb + 5), .ref (sb + 6), .ref (sb + 7), .ref (sb + 8), .ref (sb + 13), .ref (sb + 18), .ref (sb + 19), .null, .int 0, .int 0, .int 0]), .inl (0, 81, .inl (fun _ => 0)), .inl (0, 81, .inl (fun _ => 0)), .inl (1, 81, .inr (.inl (fun _ => 0))), .inl (1, 81, .inr (.inl (fun _ => 0))), .inl (0, 1296, .inl (fun _ => 0)), .inl (0, 4, .inl (fun _ => 0)), .inl (0, 4, .inl (fun _ => 0)), .inl (4, 4, .inr (.inr (.inr (.inr (fun i => some (sb + (9 + i))))))), .inl (0, 6, .inl (fun _ => 0)), .inl (0, 6, .inl (fun _ => 0)), .inl (0, 6, .inl (fun _ => 0)), .inl (0, 6, .inl (fun _ => 0)), .inl (4, 4, .inr (.inr (.inr (.inr (fun i => some (sb + (14 + i))))))), .inl (0, 6, .inl (fun _ => 0)), .inl (0, 6, .inl (fun _ => 0)), .inl (0, 6, .inl (fun _ => 0)), .inl (0, 6, .inl (fun _ => 0)), .inl (1, 1296, .inr (.inl (fun _ => 0))), .inl (1, 1296, .inr (.inl (fun _ => 0)))]) (ov_up 0 (Nat.succ_pos _) rfl) ?_
  refine r_aload_n X 0 dX5_init_99 rfl ?_
  refine r_sipush X (nI 1296) dX5_init_100 (by decide) ?_
  refine r_newj X A (by decide) (Or.inr ⟨_, ov_isV (d := sb) 19 _ rfl⟩) (by decide) (by decide) dX5_init_103 ?_
  refine SW.heq (h2 := ov h sb [.inr (5, [.ref (sb + 1), .ref (sb + 2), .ref (sb + 3), .ref (sb + 4), .ref (sb + 5), .ref (sb + 6), .ref (sb + 7), .ref (sb + 8), .ref (sb + 13), .ref (sb + 18), .ref (sb + 19), .null, .int 0, .int 0, .int 0]), .inl (0, 81, .inl (fun _ => 0)), .inl (0, 81, .inl (fun _ => 0)), .inl (1, 81, .inr (.inl (fun _ => 0))), .inl (1, 81, .inr (.inl (fun _ => 0))), .inl (0, 1296, .inl (fun _ => 0)), .inl (0, 4, .inl (fun _ => 0)), .inl (0, 4, .inl (fun _ => 0)), .inl (4, 4, .inr (.inr (.inr (.inr (fun i => some (sb + (9 + i))))))), .inl (0, 6, .inl (fun _ => 0)), .inl (0, 6, .inl (fun _ => 0)), .inl (0, 6, .inl (fun _ => 0)), .inl (0, 6, .inl (fun _ => 0)), .inl (4, 4, .inr (.inr (.inr (.inr (fun i => some (sb + (14 + i))))))), .inl (0, 6, .inl (fun _ => 0)), .inl (0, 6, .inl (fun _ => 0)), .inl (0, 6, .inl (fun _ => 0)), .inl (0, 6, .inl (fun _ => 0)), .inl (1, 1296, .inr (.inl (fun _ => 0))), .inl (1, 1296, .inr (.inl (fun _ => 0))), .inl (1, 1296, .inr (.inl (fun _ => 0)))]) (ov_app rfl rfl) ?_
  have X := mCx.g1 (k := 1296) X A (by decide) (by decide)
  have Y : mEndC _ (sb + 1) 20 5572 20 none none _ := mEndC.g1 (k := 1296) Y A
  have J := mIn.g1 (k := 1296) J
  have O := mCo.g1 (k := 1296) O
  have A : mAl _ (sb + 1) 20 5572 20 5572 := mAl.g1 (k := 1296) A
  refine pf_X5_48 X dX5_init_105 (ov_isV (d := sb) 0 _ rfl) (Nat.le_of_ble_eq_true rfl) ?_
  refine SW.heq (h2 := ov h sb [.inr (5, [.ref (sb + 1), .ref (sb + 2), .ref (sb + 3), .ref (sb + 4), .ref (sb + 5), .ref (sb + 6), .ref (sb + 7), .ref (sb + 8), .ref (sb + 13), .ref (sb + 18), .ref (sb + 19), .ref (sb + 20), .int 0, .int 0, .int 0]), .inl (0, 81, .inl (fun _ => 0)), .inl (0, 81, .inl (fun _ => 0)), .inl (1, 81, .inr (.inl (fun _ => 0))), .inl (1, 81, .inr (.inl (fun _ => 0))), .inl (0, 1296, .inl (fun _ => 0)), .inl (0, 4, .inl (fun _ => 0)), .inl (0, 4, .inl (fun _ => 0)), .inl (4, 4, .inr (.inr (.inr (.inr (fun i => some (sb + (9 + i))))))), .inl (0, 6, .inl (fun _ => 0)), .inl (0, 6, .inl (fun _ => 0)), .inl (0, 6, .inl (fun _ => 0)), .inl (0, 6, .inl (fun _ => 0)), .inl (4, 4, .inr (.inr (.inr (.inr (fun i => some (sb + (14 + i))))))), .inl (0, 6, .inl (fun _ => 0)), .inl (0, 6, .inl (fun _ => 0)), .inl (0, 6, .inl (fun _ => 0)), .inl (0, 6, .inl (fun _ => 0)), .inl (1, 1296, .inr (.inl (fun _ => 0))), .inl (1, 1296, .inr (.inl (fun _ => 0))), .inl (1, 1296, .inr (.inl (fun _ => 0)))]) (ov_up 0 (Nat.succ_pos _) rfl) ?_
  refine r_iconst X (nI 0) dX5_init_108 (by decide) ?_
  refine r_istore_n [(0, .ref sb), (1, .int (nI 0))] X dX5_init_109 rfl (by decide) rfl ?_
  exact se_out X (mEndC.fin Y A)
