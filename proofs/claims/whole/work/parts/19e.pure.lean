theorem aC_of {ty : FieldType} {args : Array Value} {s : State} (h : (Cond.arrayClass ty).before args s = true) : ∃ c : ClassId, ArrOfT s c ty ∧ s.vm.findClass ("[" ++ ty.toString) = some c := by
  obtain ⟨c, k, comp, h1, h2, h3⟩ := Cond.arrayClass_spec h
  exact ⟨c, fun n z => ⟨fun k h => (by cases h), k, h2, comp, h3⟩, h1⟩
theorem aD_of {args : Array Value} {s : State} (h : (Cond.arrayOver (.object "UnitHours$Day")).before args s = true) : ∃ c : ClassId, ArrOfT s c (.object "UnitHours$Day") ∧ va_RA s c (.object "UnitHours$Day") := by
  obtain ⟨comp, c, k, h1, h2, h3, h4, h5⟩ := Cond.arrayOver_spec h
  exact ⟨c, fun n z => ⟨fun k h => (by cases h), k, h3, comp, h4⟩, k, comp, h3, h4, h1, h5⟩
theorem aI_of {args : Array Value} {s : State} (h : (Cond.arrayOver (.array .int)).before args s = true) : ∃ c : ClassId, ArrOfT s c (.array .int) ∧ va_RA s c (.array .int) := by
  obtain ⟨comp, c, k, h1, h2, h3, h4, h5⟩ := Jvm.Stand.arrayOver_specB h
  exact ⟨c, fun n z => ⟨fun k h => (by cases h), k, h3, comp, h4⟩, h5⟩
theorem tW {w : Cond} (i : Nat) (h : lw_tbl[i]? = some w) : w ∈ lw_tbl := List.mem_of_getElem? h
def dCl (c0 c1 c2 c3 c4 c5 c6 c7 c8 : ClassId) : Nat → ClassId
  | 0 => c0 | 1 => c1 | 2 => c2 | 3 => c3 | 4 => c4 | 5 => c5 | 6 => c6 | 7 => c7 | _ => c8
def dSl (c0 c1 c2 c3 c4 c5 c6 c7 c8 : Nat → Nat) : Nat → Nat → Nat
  | 0 => c0 | 1 => c1 | 2 => c2 | 3 => c3 | 4 => c4 | 5 => c5 | 6 => c6 | 7 => c7 | _ => c8
def dAr (c0 c1 c2 c3 c4 : ClassId) : Nat → ClassId
  | 0 => c0 | 1 => c1 | 2 => c2 | 3 => c3 | _ => c4
theorem lw_known {args : Array Value} {s : State} {N0 : Nat} (hts : ∀ w ∈ lw_tbl, w.before args s = true) : ∃ G : mG, G.2.2 = N0 ∧ mI G s := by
  have hg : ∀ w ∈ gtbl, w.before args s = true := fun w hw => hts w (List.mem_filter.mp hw).1
  obtain ⟨c0, i0, k0⟩ := u_known (C := RX0) (T := TX0) (N := 3) (n := 3) hg inG0 (hg _ (wG 246 (by decide +kernel) (by decide +kernel)))
  obtain ⟨c1, i1, k1⟩ := u_known (C := RX1) (T := TX1) (N := 6) (n := 6) hg inG1 (hg _ (wG 344 (by decide +kernel) (by decide +kernel)))
  obtain ⟨c2, i2, k2⟩ := u_known (C := RX2) (T := TX2) (N := 16) (n := 16) hg inG2 (hg _ (wG 149 (by decide +kernel) (by decide +kernel)))
  obtain ⟨c3, i3, k3⟩ := u_known (C := RX3) (T := TX3) (N := 5) (n := 5) hg inG3 (hg _ (wG 319 (by decide +kernel) (by decide +kernel)))
  obtain ⟨c4, i4, k4⟩ := u_known (C := RX4) (T := TX4) (N := 3) (n := 3) hg inG4 (hg _ (wG 103 (by decide +kernel) (by decide +kernel)))
  obtain ⟨c5, i5, k5⟩ := u_known (C := RX5) (T := TX5) (N := 15) (n := 15) hg inG5 (hg _ (wG 265 (by decide +kernel) (by decide +kernel)))
  obtain ⟨c6, i6, k6⟩ := u_known (C := RX6) (T := TX6) (N := 4) (n := 4) hg inG6 (hg _ (wG 127 (by decide +kernel) (by decide +kernel)))
  obtain ⟨c7, i7, k7⟩ := u_known (C := RX7) (T := TX7) (N := 13) (n := 13) hg inG7 (hg _ (wG 95 (by decide +kernel) (by decide +kernel)))
  obtain ⟨c8, i8, k8⟩ := u_known (C := RX8) (T := TX8) (N := 31) (n := 31) hg inG8 (hg _ (wG 989 (by decide +kernel) (by decide +kernel)))
  obtain ⟨a0, p0, q0⟩ := aC_of (hts (.arrayClass .int) (tW 125 (by decide +kernel)))
  obtain ⟨a1, p1, q1⟩ := aC_of (hts (.arrayClass .long) (tW 317 (by decide +kernel)))
  obtain ⟨a2, p2, q2⟩ := aC_of (hts (.arrayClass .boolean) (tW 1089 (by decide +kernel)))
  obtain ⟨a3, p3, q3⟩ := aD_of (hts (.arrayOver (.object "UnitHours$Day")) (tW 244 (by decide +kernel)))
  obtain ⟨a4, p4, q4⟩ := aI_of (hts (.arrayOver (.array .int)) (tW 109 (by decide +kernel)))
  refine ⟨((dCl c0 c1 c2 c3 c4 c5 c6 c7 c8, dSl i0 i1 i2 i3 i4 i5 i6 i7 i8), dAr a0 a1 a2 a3 a4, N0), rfl, ⟨fun k q hq => ?_, fun k q hq => ?_⟩, fun w hw => ?_⟩
  · match k, hq with
    | 0, hq => cases hq; exact k0
    | 1, hq => cases hq; exact k1
    | 2, hq => cases hq; exact k2
    | 3, hq => cases hq; exact k3
    | 4, hq => cases hq; exact k4
    | 5, hq => cases hq; exact k5
    | 6, hq => cases hq; exact k6
    | 7, hq => cases hq; exact k7
    | 8, hq => cases hq; exact k8
    | k + 9, hq => cases hq
  · match k, hq with
    | 0, hq => cases hq; exact ⟨p0, q0⟩
    | 1, hq => cases hq; exact ⟨p1, q1⟩
    | 2, hq => cases hq; exact ⟨p2, q2⟩
    | 3, hq => cases hq; exact ⟨p3, q3⟩
    | 4, hq => cases hq; exact ⟨p4, q4⟩
    | k + 5, hq => cases hq
  · have h1 := List.mem_filter.mp hw
    have h2 := h1.2
    refine va_Nw.of ?_ (hts w h1.1)
    cases w <;> first | rfl | (simp [nestW] at h2)
theorem lw_stat {b : Nat} {s : State} {G : mG} (hG : G.2.2 = s.heap.size) (hts : ∀ w ∈ lw_tbl, w.before #[Value.ref b] s = true) (hgv : (Jvm.Cond.and given_1 narrow_1).before #[Value.ref b] s = true) : ∃ t, mSt G t s := by
  have hs := flat_of_before _ hgv
  have hA : ∀ a : Nat, a < s.heap.size → ¬ (fun q => G.2.2 ≤ q) a := fun a h1 h2 => by
    have h3 : G.2.2 ≤ a := h2
    omega
  have hlen : (Term.length (.static "UnitHours" "KINDS_IT_IS" "[I")).eval #[Value.ref b] s none [] s = some (.int (Int32.ofNat 6)) := va_eqt (hs (Cond.eq (.length (.static "UnitHours" "KINDS_IT_IS" "[I")) (.int 6)) (by decide +kernel))
  have hel : ∀ j : Nat, j < 6 → (Term.elem (.static "UnitHours" "KINDS_IT_IS" "[I") (.int (Int32.ofNat j))).eval #[Value.ref b] s none [] s = some ((fun j => Value.int (kAs j)) j) := fun j hj => by
    rcases (show j = 0 ∨ j = 1 ∨ j = 2 ∨ j = 3 ∨ j = 4 ∨ j = 5 by omega) with rfl | rfl | rfl | rfl | rfl | rfl
    · exact va_eqt (hs (Cond.eq (.elem (.static "UnitHours" "KINDS_IT_IS" "[I") (.int 0)) (.int 1)) (by decide +kernel))
    · exact va_eqt (hs (Cond.eq (.elem (.static "UnitHours" "KINDS_IT_IS" "[I") (.int 1)) (.int 3)) (by decide +kernel))
    · exact va_eqt (hs (Cond.eq (.elem (.static "UnitHours" "KINDS_IT_IS" "[I") (.int 2)) (.int 7)) (by decide +kernel))
    · exact va_eqt (hs (Cond.eq (.elem (.static "UnitHours" "KINDS_IT_IS" "[I") (.int 3)) (.int 11)) (by decide +kernel))
    · exact va_eqt (hs (Cond.eq (.elem (.static "UnitHours" "KINDS_IT_IS" "[I") (.int 4)) (.int 17)) (by decide +kernel))
    · exact va_eqt (hs (Cond.eq (.elem (.static "UnitHours" "KINDS_IT_IS" "[I") (.int 5)) (.int 49)) (by decide +kernel))
  obtain ⟨t, h1, h2⟩ := va_Tof (N := 6) (f := fun j => .int (kAs j)) (A := fun q => G.2.2 ≤ q) (by decide) (hs (Cond.arrayOf (.static "UnitHours" "KINDS_IT_IS" "[I") .int) (by decide +kernel)) hlen hel hA
  exact ⟨t, va_Zref (hts _ (tW 913 (by decide +kernel))) (hts (.initialized "UnitHours") (tW 81 (by decide +kernel))) h1 hA, h2⟩
theorem whole_start {p : Program} {e : Env} {s : State} {m : MethodId} {below : List Frame} {meth : Method} {c : Code} (l : Launch) (hflags : l.flags = flags0) {b L : Nat} {xs : Nat → Int32} (hL : L ≤ 3072) (C0 : lw_At p s m meth c b L xs) : W p l e room_1 s m #[Value.ref b] below meth c s.heap [] 0 0 (lw_Z below #[Value.ref b] s) (entryFrame m ([Value.ref b] : List Value).toArray 4) := by
  obtain ⟨hx, hb, hr, hml, hown, hts, hX, hbl, hlocks, hgv⟩ := id C0
  have hg : ∀ w ∈ gtbl, w.before #[Value.ref b] s = true := fun w hw => hts w (List.mem_filter.mp hw).1
  obtain ⟨G, hG, hI⟩ := lw_known (N0 := s.heap.size) hts
  obtain ⟨t, hT⟩ := lw_stat hG hts hgv
  have hO : mO s := ⟨va_AO.of (hts (.arrayOver (.object "UnitHours$Day")) (tW 244 (by decide +kernel))), mAA.of (hts (.arrayOver (.array .int)) (tW 109 (by decide +kernel)))⟩
  have K := lw_body (Z := (G, (p, l, e, room_1, s, m, #[Value.ref b], below, meth, c), (4, 0, 0), lw_Z below #[Value.ref b] s, [])) (t := t) (b := b) (L := L) (N0 := s.heap.size) (xs := xs) (h := fun _ => none) hL ⟨hx, hb, hml, rfl, hown, hg, hI, Nat.le_of_ble_eq_true rfl, Nat.le_of_ble_eq_true rfl, Nat.zero_le _, Nat.zero_le _⟩ ⟨rfl, rfl, rfl, rfl, rfl, Nat.le_of_eq hG⟩ hO hT ⟨hX, hbl, fun q => by omega⟩ ⟨rfl, rfl, rfl, hr, hlocks, hG⟩
  have hl := lv_entry ([.ref b]) (n := 4) (Nat.le_of_ble_eq_true rfl)
  rw [lg_entry_eq]
  exact K s.heap [] _ ⟨fun a e h => (by cases h), fun k q h => (by cases h), ⟨fun i j p q h => (by cases h), fun k q h => (by cases h)⟩⟩ va_S.rf hl
