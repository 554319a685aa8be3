theorem isWell_nI {k : Nat} (h : k < 2 ^ 31) : f_Model_isWell (nI k) = 0 := by
  unfold f_Model_isWell
  rw [if_neg (nI_pos h)]
theorem advances_mst {tape : Nat → Int32} {taped mat : Nat} : (f_Model_advances tape taped mat).2.1 = mat := by
  unfold f_Model_advances
  split <;> rfl
theorem takes_J {tape : Nat → Int32} {taped : Nat} {fk fp : Int32} {mat mst : Nat} {tok mval : Int32} {z kd : Int32} (ht : taped ≤ 120) (h : mat ≤ taped) (hs : mst ≤ taped) : ((f_Model_takes tape taped fk fp mat mst tok mval z kd).2.2.2.1 ≤ taped ∧ (f_Model_takes tape taped fk fp mat mst tok mval z kd).2.2.2.2.1 ≤ taped) ∧ (¬ f_Model_isWell (f_Model_takes tape taped fk fp mat mst tok mval z kd).2.2.1 = 0 → ¬ z = 0 ∧ ¬ f_Model_isWell fp = 0) := by
  unfold f_Model_takes
  by_cases c : f_Model_isWell fp = 0
  · rw [if_pos c]; exact ⟨⟨h, hs⟩, fun q => absurd c q⟩
  · rw [if_neg c]
    by_cases d : z = 0
    · rw [if_pos d]; exact ⟨⟨h, hs⟩, fun q => absurd (isWell_nI (by omega)) q⟩
    · rw [if_neg d]
      refine ⟨⟨advances_post ht h, ?_⟩, fun _ => ⟨d, c⟩⟩
      show (f_Model_advances tape taped mat).2.1 ≤ taped
      rw [advances_mst]; exact h
theorem figure_J {tape : Nat → Int32} {taped : Nat} {fk fp : Int32} {mat mst : Nat} {tok mval : Int32} {lo hi : Int32} (ht : taped ≤ 120) (h : mat ≤ taped) (hs : mst ≤ taped) : ((f_Model_figure tape taped fk fp mat mst tok mval lo hi).2.2.2.1 ≤ taped ∧ (f_Model_figure tape taped fk fp mat mst tok mval lo hi).2.2.2.2.1 ≤ taped) ∧ (¬ f_Model_isWell (f_Model_figure tape taped fk fp mat mst tok mval lo hi).2.2.1 = 0 → ¬ f_Model_isWell fp = 0) := by
  unfold f_Model_figure
  by_cases c : f_Model_isWell fp = 0
  · rw [if_pos c]
    have t := takes_J (fk := fk) (fp := fp) (tok := tok) (mval := mval) (tape := tape) (z := f_Model_in mval lo hi) (kd := 2) ht h hs
    exact ⟨t.1, fun q => (t.2 q).2⟩
  · rw [if_neg c]
    by_cases d : tok = 2
    · rw [if_pos d]
      have t := takes_J (fk := fk) (fp := fp) (tok := tok) (mval := mval) (tape := tape) (z := f_Model_in mval lo hi) (kd := 2) ht h hs
      exact ⟨t.1, fun q => (t.2 q).2⟩
    · rw [if_neg d]
      have t := takes_J (fk := fk) (fp := fp) (tok := tok) (mval := mval) (tape := tape) (z := 0) (kd := 1) ht h hs
      exact ⟨t.1, fun q => (t.2 q).2⟩
def psJ (taped : Nat) (C : Prop) (r : Int32 × Int32 × Int32 × Nat × Nat × Int32 × Int32) : Prop := (r.2.2.2.1 ≤ taped ∧ r.2.2.2.2.1 ≤ taped) ∧ (¬ f_Model_isWell r.2.2.1 = 0 → C)
theorem behind_J {tape : Nat → Int32} {taped : Nat} {fk fp : Int32} {mat mst : Nat} {tok mval : Int32} {lo hi : Int32} (ht : taped ≤ 120) (h : mat ≤ taped) (hs : mst ≤ taped) : psJ taped (¬ f_Model_isWell fp = 0) (f_Model_behind tape taped fk fp mat mst tok mval lo hi) := by
  unfold f_Model_behind
  have t := takes_J (fk := fk) (fp := fp) (tok := tok) (mval := mval) (tape := tape) (z := if tok = (3 : Int32) then (1 : Int32) else (0 : Int32)) (kd := 1) ht h hs
  revert t
  generalize f_Model_takes tape taped fk fp mat mst tok mval (if tok = (3 : Int32) then (1 : Int32) else (0 : Int32)) (1 : Int32) = q1
  intro a1
  have f := figure_J (tape := tape) (fk := q1.2.1) (fp := q1.2.2.1) (tok := q1.2.2.2.2.2.1) (mval := q1.2.2.2.2.2.2) (lo := lo) (hi := hi) ht a1.1.1 a1.1.2
  dsimp only
  revert f
  generalize f_Model_figure tape taped q1.2.1 q1.2.2.1 q1.2.2.2.1 q1.2.2.2.2.1 q1.2.2.2.2.2.1 q1.2.2.2.2.2.2 lo hi = q2
  intro f
  exact ⟨f.1, fun q => (a1.2 (f.2 q)).2⟩
def psH (taped : Nat) (C : Prop) (W : Nat → Nat → Int32) (i n : Nat) (r : Int32 × Int32 × Nat × Nat × Int32 × Int32 × (Nat → Nat → Int32)) : Prop := (r.2.2.1 ≤ taped ∧ r.2.2.2.1 ≤ taped) ∧ (¬ f_Model_isWell r.2.1 = 0 → C ∧ r.2.2.2.2.2.2 1 i = nI n) ∧ (f_Model_isWell r.2.1 = 0 → r.2.2.2.2.2.2 = W) ∧ ∀ j, j < 3 → j ≠ i → r.2.2.2.2.2.2 1 j = W 1 j
theorem ite_nz {p : Prop} [Decidable p] (h : ¬ (if p then (1 : Int32) else (0 : Int32)) = 0) : p := by
  by_cases c : p
  · exact c
  · rw [if_neg c] at h; exact absurd rfl h
theorem readsHour_J {tape : Nat → Int32} {taped : Nat} {fk fp : Int32} {mat mst : Nat} {tok mval : Int32} {W : Nat → Nat → Int32} {Hd : Nat} (ht : taped ≤ 120) (h : mat ≤ taped) (hs : mst ≤ taped) : psH taped (nI Hd < 6) W 1 (Hd + 1) (f_Model_readsHour tape taped fk fp mat mst tok mval W Hd) := by
  unfold f_Model_readsHour
  have t := takes_J (fk := fk) (fp := fp) (tok := tok) (mval := mval) (tape := tape) (z := if (nI Hd) < (6 : Int32) then (1 : Int32) else (0 : Int32)) (kd := 3) ht h hs
  revert t
  generalize f_Model_takes tape taped fk fp mat mst tok mval (if (nI Hd) < (6 : Int32) then (1 : Int32) else (0 : Int32)) (3 : Int32) = q1
  intro t1
  have f := figure_J (tape := tape) (fk := q1.2.1) (fp := q1.2.2.1) (tok := q1.2.2.2.2.2.1) (mval := q1.2.2.2.2.2.2) (lo := 0) (hi := 60) ht t1.1.1 t1.1.2
  dsimp only
  revert f
  generalize f_Model_figure tape taped q1.2.1 q1.2.2.1 q1.2.2.2.1 q1.2.2.2.2.1 q1.2.2.2.2.2.1 q1.2.2.2.2.2.2 (0 : Int32) (60 : Int32) = q2
  intro a2
  have t := takes_J (tape := tape) (fk := q2.2.1) (fp := q2.2.2.1) (tok := q2.2.2.2.2.2.1) (mval := q2.2.2.2.2.2.2) (z := if q2.2.2.2.2.2.1 = (4 : Int32) then (1 : Int32) else (0 : Int32)) (kd := 1) ht a2.1.1 a2.1.2
  revert t
  generalize f_Model_takes tape taped q2.2.1 q2.2.2.1 q2.2.2.2.1 q2.2.2.2.2.1 q2.2.2.2.2.2.1 q2.2.2.2.2.2.2 (if q2.2.2.2.2.2.1 = (4 : Int32) then (1 : Int32) else (0 : Int32)) (1 : Int32) = q3
  intro t3
  have a3 : psJ taped (nI Hd < 6) q3 := ⟨t3.1, fun q => ite_nz (t1.2 (a2.2 (t3.2 q).2)).1⟩
  by_cases c : f_Model_isWell q3.2.2.1 = 0
  · rw [if_pos c]
    exact ⟨a3.1, fun q => absurd c q, fun _ => rfl, fun j _ _ => rfl⟩
  · rw [if_neg c]
    refine ⟨a3.1, fun _ => ⟨a3.2 c, ?_⟩, fun q => absurd q c, fun j hj hi => ?_⟩
    · show (va_up (va_up W 1 (upd (W 1) (3 + Hd) q2.1)) 1 (upd ((va_up W 1 (upd (W 1) (3 + Hd) q2.1)) 1) 1 (nI (Hd + 1)))) 1 1 = _
      rw [vu_self, pk_us]
    · show (va_up (va_up W 1 (upd (W 1) (3 + Hd) q2.1)) 1 (upd ((va_up W 1 (upd (W 1) (3 + Hd) q2.1)) 1) 1 (nI (Hd + 1)))) 1 j = _
      rw [vu_self, pk_un (by omega), vu_self, pk_un (by omega)]

theorem readsUnit_J {tape : Nat → Int32} {taped : Nat} {fk fp : Int32} {mat mst : Nat} {tok mval : Int32} {W : Nat → Nat → Int32} {Ud : Nat} (ht : taped ≤ 120) (h : mat ≤ taped) (hs : mst ≤ taped) : psH taped (nI Ud < 4) W 0 (Ud + 1) (f_Model_readsUnit tape taped fk fp mat mst tok mval W Ud) := by
  unfold f_Model_readsUnit
  have t := takes_J (fk := fk) (fp := fp) (tok := tok) (mval := mval) (tape := tape) (z := if (nI Ud) < (4 : Int32) then (1 : Int32) else (0 : Int32)) (kd := 3) ht h hs
  revert t
  generalize f_Model_takes tape taped fk fp mat mst tok mval (if (nI Ud) < (4 : Int32) then (1 : Int32) else (0 : Int32)) (3 : Int32) = q1
  intro t1
  rw [lt_eq]
  have a1 : psJ taped (nI Ud < 4) q1 := ⟨t1.1, fun q => ite_nz (t1.2 q).1⟩
  have f := figure_J (tape := tape) (fk := q1.2.1) (fp := q1.2.2.1) (tok := q1.2.2.2.2.2.1) (mval := q1.2.2.2.2.2.2) (lo := 0) (hi := 20) ht a1.1.1 a1.1.2
  revert f
  generalize f_Model_figure tape taped q1.2.1 q1.2.2.1 q1.2.2.2.1 q1.2.2.2.2.1 q1.2.2.2.2.2.1 q1.2.2.2.2.2.2 (0 : Int32) (20 : Int32) = q2
  intro f2
  rw [lt_eq]
  have a2 : psJ taped (nI Ud < 4) q2 := ⟨f2.1, fun q => a1.2 (f2.2 q)⟩
  have f := behind_J (tape := tape) (fk := q2.2.1) (fp := q2.2.2.1) (tok := q2.2.2.2.2.2.1) (mval := q2.2.2.2.2.2.2) (lo := q2.1) (hi := (30 : Int32)) ht a2.1.1 a2.1.2
  revert f
  generalize f_Model_behind tape taped q2.2.1 q2.2.2.1 q2.2.2.2.1 q2.2.2.2.2.1 q2.2.2.2.2.2.1 q2.2.2.2.2.2.2 q2.1 (30 : Int32) = q3
  intro f3
  rw [lt_eq]
  have a3 : psJ taped (nI Ud < 4) q3 := ⟨f3.1, fun q => a2.2 (f3.2 q)⟩
  have f := behind_J (tape := tape) (fk := q3.2.1) (fp := q3.2.2.1) (tok := q3.2.2.2.2.2.1) (mval := q3.2.2.2.2.2.2) (lo := (1 : Int32)) (hi := (9 : Int32)) ht a3.1.1 a3.1.2
  revert f
  generalize f_Model_behind tape taped q3.2.1 q3.2.2.1 q3.2.2.2.1 q3.2.2.2.2.1 q3.2.2.2.2.2.1 q3.2.2.2.2.2.2 (1 : Int32) (9 : Int32) = q4
  intro f4
  rw [lt_eq]
  have a4 : psJ taped (nI Ud < 4) q4 := ⟨f4.1, fun q => a3.2 (f4.2 q)⟩
  have f := behind_J (tape := tape) (fk := q4.2.1) (fp := q4.2.2.1) (tok := q4.2.2.2.2.2.1) (mval := q4.2.2.2.2.2.2) (lo := (0 : Int32)) (hi := (40 : Int32)) ht a4.1.1 a4.1.2
  revert f
  generalize f_Model_behind tape taped q4.2.1 q4.2.2.1 q4.2.2.2.1 q4.2.2.2.2.1 q4.2.2.2.2.2.1 q4.2.2.2.2.2.2 (0 : Int32) (40 : Int32) = q5
  intro f5
  rw [lt_eq]
  have a5 : psJ taped (nI Ud < 4) q5 := ⟨f5.1, fun q => a4.2 (f5.2 q)⟩
  have f := behind_J (tape := tape) (fk := q5.2.1) (fp := q5.2.2.1) (tok := q5.2.2.2.2.2.1) (mval := q5.2.2.2.2.2.2) (lo := (1 : Int32)) (hi := (3 : Int32)) ht a5.1.1 a5.1.2
  revert f
  generalize f_Model_behind tape taped q5.2.1 q5.2.2.1 q5.2.2.2.1 q5.2.2.2.2.1 q5.2.2.2.2.2.1 q5.2.2.2.2.2.2 (1 : Int32) (3 : Int32) = q6
  intro f6
  rw [lt_eq]
  have a6 : psJ taped (nI Ud < 4) q6 := ⟨f6.1, fun q => a5.2 (f6.2 q)⟩
  have f := behind_J (tape := tape) (fk := q6.2.1) (fp := q6.2.2.1) (tok := q6.2.2.2.2.2.1) (mval := q6.2.2.2.2.2.2) (lo := (1 : Int32)) (hi := (3 : Int32)) ht a6.1.1 a6.1.2
  revert f
  generalize f_Model_behind tape taped q6.2.1 q6.2.2.1 q6.2.2.2.1 q6.2.2.2.2.1 q6.2.2.2.2.2.1 q6.2.2.2.2.2.2 (1 : Int32) (3 : Int32) = q7
  intro f7
  rw [lt_eq]
  have a7 : psJ taped (nI Ud < 4) q7 := ⟨f7.1, fun q => a6.2 (f7.2 q)⟩
  have t := takes_J (tape := tape) (fk := q7.2.1) (fp := q7.2.2.1) (tok := q7.2.2.2.2.2.1) (mval := q7.2.2.2.2.2.2) (z := if q7.2.2.2.2.2.1 = (4 : Int32) then (1 : Int32) else (0 : Int32)) (kd := 1) ht a7.1.1 a7.1.2
  revert t
  generalize f_Model_takes tape taped q7.2.1 q7.2.2.1 q7.2.2.2.1 q7.2.2.2.2.1 q7.2.2.2.2.2.1 q7.2.2.2.2.2.2 (if q7.2.2.2.2.2.1 = (4 : Int32) then (1 : Int32) else (0 : Int32)) (1 : Int32) = q8
  intro t8
  rw [lt_eq]
  have a8 : psJ taped (nI Ud < 4) q8 := ⟨t8.1, fun q => a7.2 (t8.2 q).2⟩
  by_cases c : f_Model_isWell q8.2.2.1 = 0
  · rw [if_pos c]
    exact ⟨a8.1, fun q => absurd c q, fun _ => rfl, fun j _ _ => rfl⟩
  · rw [if_neg c]
    refine ⟨a8.1, fun _ => ⟨a8.2 c, ?_⟩, fun q => absurd q c, fun j hj hi => ?_⟩
    · dsimp only
      rw [vu_self, pk_us]
    · dsimp only
      rw [vu_self, pk_un (by omega), pk_un (by omega), pk_un (by omega), pk_un (by omega), pk_un (by omega), pk_un (by omega), pk_un (by omega), pk_un (by omega), pk_un (by omega)]
