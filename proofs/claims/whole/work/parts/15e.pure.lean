theorem ru_lt {by_ : Nat → Int32} {ln : Nat} {at_ : Nat} {fl : Int32} {low : Nat → Int32} {hig : Nat → Int32} {pri : Nat → Int32} {sta : Nat → Int32} {ups : Nat → Int32} {dow : Nat → Int32} {u : Nat} : f_Tape_readUnit by_ ln at_ fl low hig pri sta ups dow u = (lt_ (f_Tape_readNumber by_ ln at_ fl (0 : Int32) (20 : Int32)) (fun q1 => (lt_ (f_Tape_readSign by_ ln q1.2.1 q1.2.2 (44 : Int32)) (fun q2 => (lt_ (f_Tape_readNumber by_ ln q2.1 q2.2 ((upd low u q1.1) u) (30 : Int32)) (fun q3 => (lt_ (f_Tape_readSign by_ ln q3.2.1 q3.2.2 (44 : Int32)) (fun q4 => (lt_ (f_Tape_readNumber by_ ln q4.1 q4.2 (1 : Int32) (9 : Int32)) (fun q5 => (lt_ (f_Tape_readSign by_ ln q5.2.1 q5.2.2 (44 : Int32)) (fun q6 => (lt_ (f_Tape_readNumber by_ ln q6.1 q6.2 (0 : Int32) (40 : Int32)) (fun q7 => (lt_ (f_Tape_readSign by_ ln q7.2.1 q7.2.2 (44 : Int32)) (fun q8 => (lt_ (f_Tape_readNumber by_ ln q8.1 q8.2 (1 : Int32) (3 : Int32)) (fun q9 => (lt_ (f_Tape_readSign by_ ln q9.2.1 q9.2.2 (44 : Int32)) (fun q10 => (lt_ (f_Tape_readNumber by_ ln q10.1 q10.2 (1 : Int32) (3 : Int32)) (fun q11 => (lt_ (f_Tape_readSign by_ ln q11.2.1 q11.2.2 (59 : Int32)) (fun q12 => (upd low u q1.1, upd hig u q3.1, upd pri u q5.1, upd sta u q7.1, upd ups u q9.1, upd dow u q11.1, q12.1, q12.2))))))))))))))))))))))))) := rfl

section TP3
variable {tape : Nat → Int32} {k0 : Int32} {ln at_ : Nat} {fl fk fp : Int32} {mat mst : Nat} {tok mval : Int32}
theorem behind_step {b : Nat} {lo hi : Int32} {C1 : Nat × Int32} {M : Int32 × Int32 × Int32 × Nat × Nat × Int32 × Int32} {C : Int32 × Nat × Int32} (hl : ln ≤ 120) (h : pS k0 tape ln at_ fl fk fp mat mst tok mval) (hlo : fl = 0 → ∃ a, a < 1000 ∧ lo = nI a) (hhi : hi = nI b) (hb : b < 1000) (hC1 : f_Tape_readSign tape ln at_ fl 44 = C1) (hC : f_Tape_readNumber tape ln C1.1 C1.2 lo hi = C) (hM : f_Model_behind tape ln fk fp mat mst tok mval lo hi = M) :
    pS k0 tape ln C.2.1 C.2.2 M.2.1 M.2.2.1 M.2.2.2.1 M.2.2.2.2.1 M.2.2.2.2.2.1 M.2.2.2.2.2.2 ∧ (C.2.2 = 0 → fl = 0) ∧ C.1 = M.1 ∧ (C.2.2 = 0 → ∃ a v, a < 1000 ∧ lo = nI a ∧ C.1 = nI v ∧ a ≤ v ∧ v ≤ b) := by
  unfold f_Model_behind at hM
  dsimp only at hM
  obtain ⟨s1, s2⟩ := sign_step (sg := 44) hl (by decide) h (comma_z hl h) hC1 rfl
  generalize f_Model_takes tape ln fk fp mat mst tok mval (if tok = (3 : Int32) then (1 : Int32) else (0 : Int32)) 1 = q at hM s1
  obtain ⟨n1, n2, n3, n4⟩ := num_step hl s1 (fun z => hlo (s2 z)) hhi hb hC rfl
  subst hM
  exact ⟨n1, fun z => s2 (n2 z), n3, n4⟩
theorem kind_letter {b : Int32} (h : ¬ f_Tape_kindOfSort b = 0) : ¬ f_Model_in b 97 122 = 0 ∧ ¬ b < 0 ∧ f_Model_kindOf b = f_Tape_kindOfSort b ∧ ∃ k, f_Tape_kindOfSort b = nI k ∧ 1 ≤ k ∧ k ≤ 5 := by
  unfold f_Tape_kindOfSort at h
  by_cases c1 : b = 112
  · subst c1; exact ⟨by decide, by decide, by decide, 1, by decide, by decide, by decide⟩
  by_cases c2 : b = 113
  · subst c2; exact ⟨by decide, by decide, by decide, 2, by decide, by decide, by decide⟩
  by_cases c3 : b = 114
  · subst c3; exact ⟨by decide, by decide, by decide, 5, by decide, by decide, by decide⟩
  by_cases c4 : b = 115
  · subst c4; exact ⟨by decide, by decide, by decide, 3, by decide, by decide, by decide⟩
  by_cases c8 : b = 119
  · subst c8; exact ⟨by decide, by decide, by decide, 4, by decide, by decide, by decide⟩
  rw [if_neg c1, if_neg c2, if_neg c3, if_neg c4, if_neg c8] at h
  exact absurd (by (repeat' split) <;> rfl) h
theorem kind_none {b : Int32} (h : f_Tape_kindOfSort b = 0) : f_Model_kindOf b = 0 := by
  have n : ∀ c : Int32, ¬ f_Tape_kindOfSort c = 0 → ¬ b = c := fun c hc e => hc (by rw [← e]; exact h)
  unfold f_Model_kindOf
  rw [if_neg (n 112 (by decide)), if_neg (n 113 (by decide)), if_neg (n 115 (by decide)), if_neg (n 119 (by decide)), if_neg (n 114 (by decide))]
def drU (w : Nat → Int32) (u : Nat) (kd : Int32) (lo hi pr st up dn : Nat) : Nat → Int32 := upd (upd (upd (upd (upd (upd (upd (upd (upd w (9 + (8 * u)) kd) ((9 + (8 * u)) + 1) (nI lo)) ((9 + (8 * u)) + 2) (nI hi)) ((9 + (8 * u)) + 3) (nI pr)) ((9 + (8 * u)) + 4) (nI st)) ((9 + (8 * u)) + 5) (nI up)) ((9 + (8 * u)) + 6) (nI dn)) ((9 + (8 * u)) + 7) (0 : Int32)) 0 (nI (u + 1))
theorem cst_a {a c : Nat} (ha : a < 1000) (hc : c < 1000) (h : nI c = nI a) : a = c := ((nI_eq (by omega) (by omega)).mp h).symm
theorem unit_step {u : Nat} {W : Nat → Nat → Int32} {low hig pri sta ups dow : Nat → Int32} {C : (Nat → Int32) × (Nat → Int32) × (Nat → Int32) × (Nat → Int32) × (Nat → Int32) × (Nat → Int32) × Nat × Int32} {M : Int32 × Int32 × Nat × Nat × Int32 × Int32 × (Nat → Nat → Int32)} (hl : ln ≤ 120) (h : pS k0 tape ln at_ 0 fk fp mat mst tok mval) (hk : ¬ f_Tape_kindOfSort (f_Model_byteAt tape ln at_) = 0) (hu : u < 4)
    (hC : f_Tape_readUnit tape ln (at_ + 1) 0 low hig pri sta ups dow u = C) (hM : f_Model_readsUnit tape ln fk fp mat mst tok mval W u = M) :
    pS k0 tape ln C.2.2.2.2.2.2.1 C.2.2.2.2.2.2.2 M.1 M.2.1 M.2.2.1 M.2.2.2.1 M.2.2.2.2.1 M.2.2.2.2.2.1 ∧ (C.2.2.2.2.2.2.2 = 0 → ∃ lo hi pr st up dn, (lo ≤ 20 ∧ lo ≤ hi ∧ hi ≤ 30 ∧ (1 ≤ pr ∧ pr ≤ 9) ∧ st ≤ 40 ∧ (1 ≤ up ∧ up ≤ 3) ∧ (1 ≤ dn ∧ dn ≤ 3)) ∧ C.1 = upd low u (nI lo) ∧ C.2.1 = upd hig u (nI hi) ∧ C.2.2.1 = upd pri u (nI pr) ∧ C.2.2.2.1 = upd sta u (nI st) ∧ C.2.2.2.2.1 = upd ups u (nI up) ∧ C.2.2.2.2.2.1 = upd dow u (nI dn) ∧ M.2.2.2.2.2.2 = va_up W 1 (drU (W 1) u (f_Tape_kindOfSort (f_Model_byteAt tape ln at_)) lo hi pr st up dn)) := by
  obtain ⟨g1, g2, g3⟩ := pS_good h rfl
  obtain ⟨e1, e2, e3, e4, e5, e6, e7⟩ := adv_facts hl h.1 g3
  obtain ⟨k1, k2, k3, k4⟩ := kind_letter hk
  have htok := e4.mpr k1
  have hmat := e6 (Or.inl htok)
  have hval := e7 htok
  have hlt : at_ < ln := b_lt (by have := h.1; omega) hl k2
  have hnu : nI u < (4 : Int32) := nI_lt (b := 4) hu (by omega)
  have h1 : pS k0 tape ln (at_ + 1) 0 fk fp (f_Model_advances tape ln mat).1 (f_Model_advances tape ln mat).2.1 (f_Model_advances tape ln mat).2.2.1 (f_Model_advances tape ln mat).2.2.2 := ⟨hlt, Or.inl ⟨rfl, g1, by rw [hmat], pS_k h rfl⟩⟩
  rw [ru_lt] at hC
  unfold f_Model_readsUnit at hM
  rw [iteT hnu, iteT hnu, takes_yes g2, lt_eq] at hM
  dsimp only at hM
  generalize f_Model_advances tape ln mat = A at h1 hM
  generalize c1 : f_Tape_readNumber tape ln (at_ + 1) 0 (0 : Int32) (20 : Int32) = q1 at hC
  generalize m1 : f_Model_figure tape ln fk fp A.1 A.2.1 A.2.2.1 A.2.2.2 (0 : Int32) (20 : Int32) = p1 at hM
  obtain ⟨n1, -, n3, n4⟩ := num_step (b := 20) hl h1 (fun _ => ⟨0, by omega, rfl⟩) rfl (by omega) c1 m1
  rw [lt_eq] at hC hM
  generalize c2 : f_Tape_readSign tape ln q1.2.1 q1.2.2 (44 : Int32) = q2 at hC
  rw [lt_eq] at hC
  rw [show upd low u q1.1 u = q1.1 from pk_us] at hC
  generalize c3 : f_Tape_readNumber tape ln q2.1 q2.2 q1.1 (30 : Int32) = q3 at hC
  generalize m3 : f_Model_behind tape ln p1.2.1 p1.2.2.1 p1.2.2.2.1 p1.2.2.2.2.1 p1.2.2.2.2.2.1 p1.2.2.2.2.2.2 p1.1 (30 : Int32) = p3 at hM
  rw [← n3] at m3
  obtain ⟨o1, o2, o3, o4⟩ := behind_step (b := 30) hl n1 (fun z => by obtain ⟨a, v, _, _, e, _, _⟩ := n4 z; exact ⟨v, by omega, e⟩) rfl (by omega) c2 c3 m3
  rw [lt_eq] at hC hM
  generalize c4 : f_Tape_readSign tape ln q3.2.1 q3.2.2 (44 : Int32) = q4 at hC
  rw [lt_eq] at hC
  generalize c5 : f_Tape_readNumber tape ln q4.1 q4.2 (1 : Int32) (9 : Int32) = q5 at hC
  generalize m5 : f_Model_behind tape ln p3.2.1 p3.2.2.1 p3.2.2.2.1 p3.2.2.2.2.1 p3.2.2.2.2.2.1 p3.2.2.2.2.2.2 (1 : Int32) (9 : Int32) = p5 at hM
  obtain ⟨r1, r2, r3, r4⟩ := behind_step (b := 9) hl o1 (fun _ => ⟨1, by omega, rfl⟩) rfl (by omega) c4 c5 m5
  rw [lt_eq] at hC hM
  generalize c6 : f_Tape_readSign tape ln q5.2.1 q5.2.2 (44 : Int32) = q6 at hC
  rw [lt_eq] at hC
  generalize c7 : f_Tape_readNumber tape ln q6.1 q6.2 (0 : Int32) (40 : Int32) = q7 at hC
  generalize m7 : f_Model_behind tape ln p5.2.1 p5.2.2.1 p5.2.2.2.1 p5.2.2.2.2.1 p5.2.2.2.2.2.1 p5.2.2.2.2.2.2 (0 : Int32) (40 : Int32) = p7 at hM
  obtain ⟨s1, s2, s3, s4⟩ := behind_step (b := 40) hl r1 (fun _ => ⟨0, by omega, rfl⟩) rfl (by omega) c6 c7 m7
  rw [lt_eq] at hC hM
  generalize c8 : f_Tape_readSign tape ln q7.2.1 q7.2.2 (44 : Int32) = q8 at hC
  rw [lt_eq] at hC
  generalize c9 : f_Tape_readNumber tape ln q8.1 q8.2 (1 : Int32) (3 : Int32) = q9 at hC
  generalize m9 : f_Model_behind tape ln p7.2.1 p7.2.2.1 p7.2.2.2.1 p7.2.2.2.2.1 p7.2.2.2.2.2.1 p7.2.2.2.2.2.2 (1 : Int32) (3 : Int32) = p9 at hM
  obtain ⟨t1, t2, t3, t4⟩ := behind_step (b := 3) hl s1 (fun _ => ⟨1, by omega, rfl⟩) rfl (by omega) c8 c9 m9
  rw [lt_eq] at hC hM
  generalize c10 : f_Tape_readSign tape ln q9.2.1 q9.2.2 (44 : Int32) = q10 at hC
  rw [lt_eq] at hC
  generalize c11 : f_Tape_readNumber tape ln q10.1 q10.2 (1 : Int32) (3 : Int32) = q11 at hC
  generalize m11 : f_Model_behind tape ln p9.2.1 p9.2.2.1 p9.2.2.2.1 p9.2.2.2.2.1 p9.2.2.2.2.2.1 p9.2.2.2.2.2.2 (1 : Int32) (3 : Int32) = p11 at hM
  obtain ⟨u1, u2, u3, u4⟩ := behind_step (b := 3) hl t1 (fun _ => ⟨1, by omega, rfl⟩) rfl (by omega) c10 c11 m11
  rw [lt_eq] at hC hM
  generalize c12 : f_Tape_readSign tape ln q11.2.1 q11.2.2 (59 : Int32) = q12 at hC
  generalize m12 : f_Model_takes tape ln p11.2.1 p11.2.2.1 p11.2.2.2.1 p11.2.2.2.2.1 p11.2.2.2.2.2.1 p11.2.2.2.2.2.2 (if p11.2.2.2.2.2.1 = (4 : Int32) then (1 : Int32) else (0 : Int32)) (1 : Int32) = p12 at hM
  obtain ⟨v1, v2⟩ := sign_step (sg := 59) hl (by decide) u1 (stop_z hl u1) c12 m12
  rw [lt_eq] at hC hM
  subst hC
  dsimp only
  by_cases hf : q12.2 = 0
  · obtain ⟨w1, w2, w3⟩ := pS_good v1 hf
    rw [w2, iteF (show ¬ (1 : Int32) = 0 by decide)] at hM
    subst hM
    dsimp only
    refine ⟨v1, fun _ => ?_⟩
    have f11 := v2 hf
    have f9 := u2 f11
    have f7 := t2 f9
    have f5 := s2 f7
    have f3 := r2 f5
    have f1 := o2 f3
    obtain ⟨a1, x1, b1, d1, y1, z1, w11⟩ := n4 f1
    obtain ⟨a3, x3, b3, d3, y3, z3, w33⟩ := o4 f3
    obtain ⟨a5, x5, b5, d5, y5, z5, w5⟩ := r4 f5
    obtain ⟨a7, x7, b7, d7, y7, z7, w7⟩ := s4 f7
    obtain ⟨a9, x9, b9, d9, y9, z9, w9⟩ := t4 f9
    obtain ⟨a11, x11, b11, d11, y11, z11, w111⟩ := u4 f11
    have i3 : a3 = x1 := (nI_eq (by omega) (by omega)).mp (d3.symm.trans y1)
    have i5 := cst_a (c := 1) b5 (by omega) d5
    have i9 := cst_a (c := 1) b9 (by omega) d9
    have i11 := cst_a (c := 1) b11 (by omega) d11
    refine ⟨x1, x3, x5, x7, x9, x11, ⟨by omega, by omega, by omega, ⟨by omega, by omega⟩, by omega, ⟨by omega, by omega⟩, ⟨by omega, by omega⟩⟩, by rw [y1], by rw [y3], by rw [y5], by rw [y7], by rw [y9], by rw [y11], ?_⟩
    rw [← n3, ← o3, ← r3, ← s3, ← t3, ← u3, y1, y3, y5, y7, y9, y11, hval, k3]
    rfl
  · have w := pS_bad hl v1 hf
    rw [if_pos w] at hM
    subst hM
    dsimp only
    exact ⟨v1, fun z => absurd z hf⟩
end TP3
