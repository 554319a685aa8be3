theorem maxJ_eq {a b : Int64} : f_Math_maxJ a b = if a < b then b else a := by
  unfold f_Math_maxJ
  by_cases c : b < a
  · have d : ¬ a < b := fun z => by
      have h1 := Int64.lt_iff_toInt_lt.mp c
      have h2 := Int64.lt_iff_toInt_lt.mp z
      omega
    rw [if_pos c, if_neg d]
  · by_cases d : a < b
    · rw [if_neg c, if_pos d]
    · rw [if_neg c, if_neg d]
      refine Int64.toInt_inj.mp ?_
      have h1 : ¬ b.toInt < a.toInt := fun z => c (Int64.lt_iff_toInt_lt.mpr z)
      have h2 : ¬ a.toInt < b.toInt := fun z => d (Int64.lt_iff_toInt_lt.mpr z)
      omega
def GG (W : Nat → Nat → Int32) (mpr : Nat → Int64) (wi H : Nat) : Nat → Nat → Int64
  | 0, _ => 0
  | k + 1, h => GG W mpr wi H k h + f_Model_givesAlone (W wi) k (f_Model_goesAlone W 0 0 mpr k wi H).2 (nI h) (mpr h)
section LO3
variable {W : Nat → Nat → Int32} {wi U H : Nat} {mpr lp : Nat → Int64} {dem kin hig pri ups dow flo sro sco : Nat → Int32}
theorem L76_sp {lo : Int32} {u : Nat} {lg : Nat → Int64} : ∀ k h, f_Lone_boundOf_L76 lp lo hig pri flo sro u lg k h = if h < k then lg h + f_Lone_givenIn lp lo hig pri flo sro u h else lg h := by
  intro k
  induction k with
  | zero => intro h; rfl
  | succ k ih =>
    intro h
    show f_Lone_boundOf_L76s lp lo hig pri flo sro u k (f_Lone_boundOf_L76 lp lo hig pri flo sro u lg k) h = _
    unfold f_Lone_boundOf_L76s
    by_cases c : h = k
    · subst c
      rw [vl_s, ih, if_neg (by omega), if_pos (by omega)]
    · rw [vl_n c, ih]
      by_cases d : h < k
      · rw [if_pos d, if_pos (by omega)]
      · rw [if_neg d, if_neg (by omega)]
theorem L103_sp {mal : Int32} {u : Nat} {lak : Nat → Int64} : ∀ k h, f_Model_moves_L103 W mal mpr u lak k h = if h < k then lak h - f_Model_givesAlone (W 0) u mal (nI h) (mpr h) else lak h := by
  intro k
  induction k with
  | zero => intro h; rfl
  | succ k ih =>
    intro h
    show f_Model_moves_L103s W mal mpr u k (f_Model_moves_L103 W mal mpr u lak k) h = _
    unfold f_Model_moves_L103s
    by_cases c : h = k
    · subst c
      rw [vl_s, ih, if_neg (by omega), if_pos (by omega)]
    · rw [vl_n c, ih]
      by_cases d : h < k
      · rw [if_pos d, if_pos (by omega)]
      · rw [if_neg d, if_neg (by omega)]
theorem al_free {mlo : Int64} {mal : Int32} {u : Nat} (hH : H ≤ 6) (hn : lnOK W wi H u kin hig pri ups dow flo sro sco) : f_Model_goesAlone W mlo mal mpr u wi H = f_Model_goesAlone W 0 0 mpr u wi H :=
  ((dec_eq (lp := mpr) (lz := mpr) (ls := 0) (mlo := mlo) (mal := mal) hH hn (fun _ _ => rfl)).1).symm.trans (dec_eq (lp := mpr) (lz := mpr) (ls := 0) (mlo := 0) (mal := 0) hH hn (fun _ _ => rfl)).1
theorem L50_sp {x2 : Int64} {lg lz : Nat → Int64} {ls mlo : Int64} {lo mal : Int32} (hH : H ≤ 6) (hn : ∀ u, u < U → lnOK W wi H u kin hig pri ups dow flo sro sco) (hp : ∀ h, h < H → lp h = mpr h) : ∀ k, k ≤ U →
    (f_Lone_boundOf_L50 lp H kin hig pri ups dow flo sro sco x2 lg lz ls lo k).1 = (f_Model_boundOf_L40 W mpr wi H x2 mlo mal k).1 ∧ ∀ h, h < H → (f_Lone_boundOf_L50 lp H kin hig pri ups dow flo sro sco x2 lg lz ls lo k).2.1 h = lg h + GG W mpr wi H k h := by
  intro k
  induction k with
  | zero => intro _; exact ⟨rfl, fun h _ => (Int64.add_zero _).symm⟩
  | succ k ih =>
    intro hk
    obtain ⟨i1, i2⟩ := ih (by omega)
    have e1 : f_Lone_boundOf_L50 lp H kin hig pri ups dow flo sro sco x2 lg lz ls lo (k + 1) = f_Lone_boundOf_L50s lp H kin hig pri ups dow flo sro sco k ((f_Lone_boundOf_L50 lp H kin hig pri ups dow flo sro sco x2 lg lz ls lo k).1) ((f_Lone_boundOf_L50 lp H kin hig pri ups dow flo sro sco x2 lg lz ls lo k).2.1) ((f_Lone_boundOf_L50 lp H kin hig pri ups dow flo sro sco x2 lg lz ls lo k).2.2.1) ((f_Lone_boundOf_L50 lp H kin hig pri ups dow flo sro sco x2 lg lz ls lo k).2.2.2.1) ((f_Lone_boundOf_L50 lp H kin hig pri ups dow flo sro sco x2 lg lz ls lo k).2.2.2.2) := rfl
    have e2 : f_Model_boundOf_L40 W mpr wi H x2 mlo mal (k + 1) = f_Model_boundOf_L40s W mpr wi H k ((f_Model_boundOf_L40 W mpr wi H x2 mlo mal k).1) ((f_Model_boundOf_L40 W mpr wi H x2 mlo mal k).2.1) ((f_Model_boundOf_L40 W mpr wi H x2 mlo mal k).2.2) := rfl
    rw [e1, e2]
    generalize f_Lone_boundOf_L50 lp H kin hig pri ups dow flo sro sco x2 lg lz ls lo k = C at i1 i2
    generalize f_Model_boundOf_L40 W mpr wi H x2 mlo mal k = M at i1
    have hu := hn k (by omega)
    obtain ⟨d1, -⟩ := dec_eq (lp := lp) (mpr := mpr) (lz := C.2.2.1) (ls := C.2.2.2.1) (mlo := M.2.1) (mal := M.2.2) hH hu hp
    obtain ⟨-, j, j1, j2⟩ := dec_eq (lp := lp) (mpr := mpr) (lz := C.2.2.1) (ls := C.2.2.2.1) (mlo := 0) (mal := 0) hH hu hp
    have f1 := al_free (mpr := mpr) (mlo := M.2.1) (mal := M.2.2) hH hu
    unfold f_Lone_boundOf_L50s f_Model_boundOf_L40s
    dsimp only
    generalize f_Lone_decide lp C.2.2.1 C.2.2.2.1 H kin hig pri ups dow flo sro sco k = q at d1
    rw [d1, f1, i1]
    refine ⟨rfl, fun h hh => ?_⟩
    rw [L76_sp, if_pos hh, i2 h hh]
    show lg h + GG W mpr wi H k h + f_Lone_givenIn lp (f_Model_goesAlone W 0 0 mpr k wi H).2 hig pri flo sro k h = lg h + (GG W mpr wi H k h + f_Model_givesAlone (W wi) k (f_Model_goesAlone W 0 0 mpr k wi H).2 (nI h) (mpr h))
    rw [j2, gi_eq j1 (by omega) hu (hp h hh), Int64.add_assoc]
theorem L5_sp {lg : Nat → Int64} (hH : H ≤ 6) (hd : ∀ h, h < H → dem h = (W wi) (3 + h)) (hp : ∀ h, h < H → lp h = mpr h) : ∀ k, k ≤ H → (f_Lone_boundOf_L5 lp dem 0 lg k).1 = f_Model_boundOf_L5 W mpr wi 0 k ∧ ∀ h, h < k → (f_Lone_boundOf_L5 lp dem 0 lg k).2 h = 0 := by
  intro k
  induction k with
  | zero => intro _; exact ⟨rfl, fun h hh => absurd hh (Nat.not_lt_zero _)⟩
  | succ k ih =>
    intro hk
    obtain ⟨i1, i2⟩ := ih (by omega)
    have e1 : f_Lone_boundOf_L5 lp dem 0 lg (k + 1) = f_Lone_boundOf_L5s lp dem k (f_Lone_boundOf_L5 lp dem 0 lg k).1 (f_Lone_boundOf_L5 lp dem 0 lg k).2 := rfl
    have e2 : f_Model_boundOf_L5 W mpr wi 0 (k + 1) = f_Model_boundOf_L5s W mpr wi k (f_Model_boundOf_L5 W mpr wi 0 k) := rfl
    rw [e1, e2, i1]
    unfold f_Lone_boundOf_L5s f_Model_boundOf_L5s
    dsimp only
    rw [hd k (by omega), hp k (by omega)]
    refine ⟨rfl, fun h hh => ?_⟩
    by_cases c : h = k
    · rw [c, vl_s]
    · rw [vl_n c]; exact i2 h (by omega)
theorem bound_eq {lg lz : Nat → Int64} {ls mlo : Int64} {lo mal : Int32} (hH : H ≤ 6) (hn : ∀ u, u < U → lnOK W wi H u kin hig pri ups dow flo sro sco) (hd : ∀ h, h < H → dem h = (W wi) (3 + h)) (hp : ∀ h, h < H → lp h = mpr h) :
    (f_Lone_boundOf lp lg lz ls lo H U dem kin hig pri ups dow flo sro sco).1 = (f_Model_boundOf W mlo mal mpr wi U H).1 ∧ ∀ h, h < H → (f_Lone_boundOf lp lg lz ls lo H U dem kin hig pri ups dow flo sro sco).2.1 h = GG W mpr wi H U h := by
  obtain ⟨a1, a2⟩ := L5_sp (W := W) (wi := wi) (lg := lg) hH hd hp H (Nat.le_refl _)
  unfold f_Lone_boundOf f_Model_boundOf
  dsimp only
  generalize f_Lone_boundOf_L5 lp dem 0 lg H = q at a1 a2
  rw [a1]
  obtain ⟨b1, b2⟩ := L50_sp (x2 := f_Model_boundOf_L5 W mpr wi 0 H) (lg := q.2) (lz := lz) (ls := ls) (mlo := mlo) (lo := lo) (mal := mal) hH hn hp U (Nat.le_refl _)
  refine ⟨b1, fun h hh => ?_⟩
  rw [b2 h hh, a2 h hh, Int64.zero_add]
theorem L42_sp {lak : Nat → Int64} : ∀ k h, h < k → f_Model_moves_L42 W lak k h = ((W 0) (3 + h)).toInt64 := by
  intro k
  induction k with
  | zero => intro h hh; exact absurd hh (Nat.not_lt_zero _)
  | succ k ih =>
    intro h hh
    show f_Model_moves_L42s W k (f_Model_moves_L42 W lak k) h = _
    unfold f_Model_moves_L42s
    by_cases c : h = k
    · rw [c, vl_s]
    · rw [vl_n c]; exact ih h (by omega)
theorem L161_sp {lak : Nat → Int64} : ∀ k h, f_Model_moves_L161 lak mpr k h = if h < k then (if mpr h + lak h < 0 then 0 else mpr h + lak h) else mpr h := by
  intro k
  induction k with
  | zero => intro h; rfl
  | succ k ih =>
    intro h
    show f_Model_moves_L161s lak k (f_Model_moves_L161 lak mpr k) h = _
    unfold f_Model_moves_L161s
    by_cases c : h = k
    · subst c
      rw [vl_s, vl_s, ih, iteF (show ¬ h < h by omega), iteT (show h < h + 1 by omega)]
    · rw [vl_n c, vl_n c, ih]
      by_cases d : h < k
      · rw [iteT d, iteT (show h < k + 1 by omega)]
      · rw [iteF d, iteF (show ¬ h < k + 1 by omega)]
theorem L26_sp {lg : Nat → Int64} : ∀ k h, f_Lone_movePrices_L26 lg dem lp k h = if h < k then f_Math_maxJ 0 ((lp h + (dem h).toInt64) - lg h) else lp h := by
  intro k
  induction k with
  | zero => intro h; rfl
  | succ k ih =>
    intro h
    show f_Lone_movePrices_L26s lg dem k (f_Lone_movePrices_L26 lg dem lp k) h = _
    unfold f_Lone_movePrices_L26s
    by_cases c : h = k
    · subst c
      rw [vl_s, ih, if_neg (by omega), if_pos (by omega)]
    · rw [vl_n c, ih]
      by_cases d : h < k
      · rw [if_pos d, if_pos (by omega)]
      · rw [if_neg d, if_neg (by omega)]
theorem L79_sp {mlo : Int64} {mal : Int32} {lak : Nat → Int64} (hH : H ≤ 6) (hn : ∀ u, u < U → lnOK W 0 H u kin hig pri ups dow flo sro sco) : ∀ k, k ≤ U → ∀ h, h < H → (f_Model_moves_L79 W mpr H mlo mal lak k).2.2 h = lak h - GG W mpr 0 H k h := by
  intro k
  induction k with
  | zero => intro _ h _; show lak h = lak h - 0; rw [Int64.sub_zero]
  | succ k ih =>
    intro hk h hh
    have i := ih (by omega) h hh
    have e : f_Model_moves_L79 W mpr H mlo mal lak (k + 1) = f_Model_moves_L79s W mpr H k ((f_Model_moves_L79 W mpr H mlo mal lak k).1) ((f_Model_moves_L79 W mpr H mlo mal lak k).2.1) ((f_Model_moves_L79 W mpr H mlo mal lak k).2.2) := rfl
    rw [e]
    generalize f_Model_moves_L79 W mpr H mlo mal lak k = M at i
    unfold f_Model_moves_L79s
    dsimp only
    rw [al_free (mpr := mpr) (mlo := M.1) (mal := M.2.1) hH (hn k (by omega)), L103_sp, if_pos hh, i]
    show lak h - GG W mpr 0 H k h - _ = lak h - (GG W mpr 0 H k h + _)
    rw [Int64.sub_sub]
theorem moves_L {lak : Nat → Int64} {x3 : Int64} {lg lz : Nat → Int64} {ls mlo : Int64} {lo mal : Int32} (hH : H ≤ 6) (hn : ∀ u, u < U → lnOK W 0 H u kin hig pri ups dow flo sro sco) (hd : ∀ h, h < H → dem h = (W 0) (3 + h)) (hp : ∀ h, h < H → lp h = mpr h) (hg : ∀ h, h < H → lg h = GG W mpr 0 H U h) : ∀ k,
    (f_Lone_movePrices_L17 H U dem kin hig pri ups dow flo sro sco x3 lp lg lz ls lo k).1 = (f_Model_moves_L33 W U H x3 mlo mal mpr lak k).1 ∧ (∀ h, h < H → (f_Lone_movePrices_L17 H U dem kin hig pri ups dow flo sro sco x3 lp lg lz ls lo k).2.1 h = (f_Model_moves_L33 W U H x3 mlo mal mpr lak k).2.2.2.1 h) ∧ ∀ h, h < H → (f_Lone_movePrices_L17 H U dem kin hig pri ups dow flo sro sco x3 lp lg lz ls lo k).2.2.1 h = GG W (f_Model_moves_L33 W U H x3 mlo mal mpr lak k).2.2.2.1 0 H U h := by
  intro k
  induction k with
  | zero => exact ⟨rfl, hp, hg⟩
  | succ k ih =>
    obtain ⟨i1, i2, i3⟩ := ih
    have e1 : f_Lone_movePrices_L17 H U dem kin hig pri ups dow flo sro sco x3 lp lg lz ls lo (k + 1) = f_Lone_movePrices_L17s H U dem kin hig pri ups dow flo sro sco k ((f_Lone_movePrices_L17 H U dem kin hig pri ups dow flo sro sco x3 lp lg lz ls lo k).1) ((f_Lone_movePrices_L17 H U dem kin hig pri ups dow flo sro sco x3 lp lg lz ls lo k).2.1) ((f_Lone_movePrices_L17 H U dem kin hig pri ups dow flo sro sco x3 lp lg lz ls lo k).2.2.1) ((f_Lone_movePrices_L17 H U dem kin hig pri ups dow flo sro sco x3 lp lg lz ls lo k).2.2.2.1) ((f_Lone_movePrices_L17 H U dem kin hig pri ups dow flo sro sco x3 lp lg lz ls lo k).2.2.2.2.1) ((f_Lone_movePrices_L17 H U dem kin hig pri ups dow flo sro sco x3 lp lg lz ls lo k).2.2.2.2.2) := rfl
    have e2 : f_Model_moves_L33 W U H x3 mlo mal mpr lak (k + 1) = f_Model_moves_L33s W U H k ((f_Model_moves_L33 W U H x3 mlo mal mpr lak k).1) ((f_Model_moves_L33 W U H x3 mlo mal mpr lak k).2.1) ((f_Model_moves_L33 W U H x3 mlo mal mpr lak k).2.2.1) ((f_Model_moves_L33 W U H x3 mlo mal mpr lak k).2.2.2.1) ((f_Model_moves_L33 W U H x3 mlo mal mpr lak k).2.2.2.2) := rfl
    rw [e1, e2]
    generalize f_Lone_movePrices_L17 H U dem kin hig pri ups dow flo sro sco x3 lp lg lz ls lo k = C at i1 i2 i3
    generalize f_Model_moves_L33 W U H x3 mlo mal mpr lak k = M at i1 i2 i3
    have hp2 : ∀ h, h < H → f_Lone_movePrices_L26 C.2.2.1 dem C.2.1 H h = f_Model_moves_L161 (f_Model_moves_L79 W M.2.2.2.1 H M.2.1 M.2.2.1 (f_Model_moves_L42 W M.2.2.2.2 H) U).2.2 M.2.2.2.1 H h := by
      intro h hh
      rw [L26_sp, L161_sp, if_pos hh, if_pos hh, L79_sp hH hn U (Nat.le_refl _) h hh, L42_sp H h hh, i2 h hh, i3 h hh, hd h hh, maxJ_eq]
      have ea : M.2.2.2.1 h + ((W 0) (3 + h)).toInt64 - GG W M.2.2.2.1 0 H U h = M.2.2.2.1 h + (((W 0) (3 + h)).toInt64 - GG W M.2.2.2.1 0 H U h) := by
        rw [Int64.sub_eq_add_neg, Int64.sub_eq_add_neg, Int64.add_assoc]
      rw [ea]
      generalize M.2.2.2.1 h + (((W 0) (3 + h)).toInt64 - GG W M.2.2.2.1 0 H U h) = t
      by_cases c : (0 : Int64) < t
      · have d : ¬ t < 0 := fun z => by
          have h1 := Int64.lt_iff_toInt_lt.mp c
          have h2 := Int64.lt_iff_toInt_lt.mp z
          omega
        rw [if_pos c, if_neg d]
      · rw [if_neg c]
        by_cases d : t < 0
        · rw [if_pos d]
        · rw [if_neg d]
          refine Int64.toInt_inj.mp ?_
          have h1 : ¬ (0 : Int64).toInt < t.toInt := fun z => c (Int64.lt_iff_toInt_lt.mpr z)
          have h2 : ¬ t.toInt < (0 : Int64).toInt := fun z => d (Int64.lt_iff_toInt_lt.mpr z)
          omega
    unfold f_Lone_movePrices_L17s f_Model_moves_L33s
    dsimp only
    generalize f_Model_moves_L79 W M.2.2.2.1 H M.2.1 M.2.2.1 (f_Model_moves_L42 W M.2.2.2.2 H) U = q5 at hp2
    obtain ⟨b1, b2⟩ := bound_eq (W := W) (wi := 0) (U := U) (lp := f_Lone_movePrices_L26 C.2.2.1 dem C.2.1 H) (mpr := f_Model_moves_L161 q5.2.2 M.2.2.2.1 H) (lg := C.2.2.1) (lz := C.2.2.2.1) (ls := C.2.2.2.2.1) (lo := C.2.2.2.2.2) (mlo := q5.1) (mal := q5.2.1) hH hn hd hp2
    rw [b1, i1, maxJ_eq]
    exact ⟨rfl, hp2, b2⟩
theorem fJ_sp {f : Nat → Int64} {v : Int64} : ∀ n h, h < n → f_fillJ_L6 v f n h = v := by
  intro n
  induction n with
  | zero => intro h hh; exact absurd hh (Nat.not_lt_zero _)
  | succ n ih =>
    intro h hh
    show f_fillJ_L6s v n (f_fillJ_L6 v f n) h = v
    unfold f_fillJ_L6s
    by_cases c : h = n
    · rw [c, vl_s]
    · rw [vl_n c]; exact ih h (by omega)
theorem L2_sp {f : Nat → Int64} : ∀ n h, h < n → f_Model_moves_L2 f n h = 0 := by
  intro n
  induction n with
  | zero => intro h hh; exact absurd hh (Nat.not_lt_zero _)
  | succ n ih =>
    intro h hh
    show f_Model_moves_L2s n (f_Model_moves_L2 f n) h = 0
    unfold f_Model_moves_L2s
    by_cases c : h = n
    · rw [c, vl_s]
    · rw [vl_n c]; exact ih h (by omega)
theorem moves_eq {n : Nat} {lak : Nat → Int64} {lg lz : Nat → Int64} {ls mlo : Int64} {lo mal : Int32} (hH : H ≤ 6) (hn : ∀ u, u < U → lnOK W 0 H u kin hig pri ups dow flo sro sco) (hd : ∀ h, h < H → dem h = (W 0) (3 + h)) :
    (f_Lone_movePrices lp lg lz ls lo H U dem kin hig pri ups dow flo sro sco n).1 = (f_Model_moves W mlo mal mpr lak n U H).1 ∧ ∀ h, h < H → (f_Lone_movePrices lp lg lz ls lo H U dem kin hig pri ups dow flo sro sco n).2.1 h = (f_Model_moves W mlo mal mpr lak n U H).2.2.2.1 h := by
  have hp : ∀ h, h < H → f_fillJ 6 lp 0 h = f_Model_moves_L2 mpr 6 h := fun h hh => by
    unfold f_fillJ
    rw [fJ_sp 6 h (by omega), L2_sp 6 h (by omega)]
  unfold f_Lone_movePrices f_Model_moves
  dsimp only
  obtain ⟨b1, b2⟩ := bound_eq (W := W) (wi := 0) (U := U) (lp := f_fillJ 6 lp 0) (mpr := f_Model_moves_L2 mpr 6) (lg := lg) (lz := lz) (ls := ls) (lo := lo) (mlo := mlo) (mal := mal) hH hn hd hp
  generalize f_Lone_boundOf (f_fillJ 6 lp 0) lg lz ls lo H U dem kin hig pri ups dow flo sro sco = C at b1 b2
  generalize f_Model_boundOf W mlo mal (f_Model_moves_L2 mpr 6) 0 U H = M at b1
  rw [b1]
  obtain ⟨m1, m2, -⟩ := moves_L (x3 := M.1) (lak := lak) (lz := C.2.2.1) (ls := C.2.2.2.1) (lo := C.2.2.2.2) (mlo := M.2.1) (mal := M.2.2) hH hn hd hp b2 n
  exact ⟨m1, m2⟩
end LO3
