theorem L11_sp {past : Nat → Int32} : ∀ n k, f_Model_notes_L11 past n k = if k < n then past (k + 41) else past k := by
  intro n
  induction n with
  | zero => intro k; rfl
  | succ n ih =>
    intro k
    show f_Model_notes_L11s n (f_Model_notes_L11 past n) k = _
    unfold f_Model_notes_L11s
    by_cases c : k = n
    · rw [c, pk_us, ih, if_neg (by omega), if_pos (by omega)]
    · rw [pk_un c, ih]
      by_cases d : k < n
      · rw [if_pos d, if_pos (by omega)]
      · rw [if_neg d, if_neg (by omega)]
theorem FI_lt {afi asz : Nat} (h : afi < 16) : FI afi asz < 16 := by
  unfold FI
  split <;> omega
theorem ZS_le {asz : Nat} (h : asz ≤ 16) : ZS asz ≤ 15 := by
  unfold ZS
  split <;> omega
theorem notes_R {W : Nat → Nat → Int32} {past : Nat → Int32} {P : Nat → Nat} {Z : Nat → Nat → Nat} {afi asz : Nat} (hm : mD (W 0) P) (h1 : afi < 16) (h2 : asz ≤ 16) (h3 : ∀ i, i < asz → mD (fun j => past (41 * i + j)) (Z ((afi + i) % 16))) :
    (f_Model_notes W past asz).2 = ZS asz + 1 ∧ ∀ i, i < ZS asz + 1 → mD (fun j => (f_Model_notes W past asz).1 (41 * i + j)) (va_up Z ((FI afi asz + ZS asz) % 16) P ((FI afi asz + i) % 16)) := by
  have hz : (if nI asz = (16 : Int32) then asz - 1 else asz) = ZS asz := by
    unfold ZS
    by_cases c : asz = 16
    · subst c; rfl
    · rw [if_neg c, iteF (show ¬ nI asz = (16 : Int32) from fun z => c ((nI_eq (b := 16) (by omega) (by omega)).mp z))]
  have hz15 := ZS_le h2
  have hf16 := FI_lt (asz := asz) h1
  unfold f_Model_notes
  dsimp only
  rw [hz]
  refine ⟨rfl, fun i hi j hj => ?_⟩
  show f_copies (W 0) _ 0 (41 * ZS asz) (41 * i + j) = _
  rw [copies_eq]
  by_cases c : i = ZS asz
  · subst c
    rw [if_pos (by omega), vu_self, show 0 + (41 * ZS asz + j - 41 * ZS asz) = j by omega]
    exact hm j hj
  · rw [if_neg (by omega), vu_ne (by omega)]
    by_cases d : asz = 16
    · subst d
      have e1 : ZS 16 = 15 := rfl
      have e2 : FI afi 16 = (afi + 1) % 16 := rfl
      rw [e1] at hi c
      rw [iteT (show nI 16 = (16 : Int32) from rfl), L11_sp, if_pos (by omega), e2]
      have k := h3 (i + 1) (by omega) j hj
      rw [show ((afi + 1) % 16 + i) % 16 = (afi + (i + 1)) % 16 by omega, show 41 * i + j + 41 = 41 * (i + 1) + j by omega]
      exact k
    · have e1 : ZS asz = asz := if_neg d
      have e2 : FI afi asz = afi := if_neg d
      rw [e1] at hi c
      rw [iteF (show ¬ nI asz = (16 : Int32) from fun z => d ((nI_eq (b := 16) (by omega) (by omega)).mp z)), e2]
      exact h3 i (by omega) j hj
def aOK (Z : Nat → Nat → Nat) (kk : Nat) (kn : Int64) (W : Nat → Nat → Int32) (past : Nat → Int32) (nac : Nat) (H U : Nat) (res : Int32) (dem kin low hig pri sta ups dow onn : Nat → Int32) (ord : Nat → Nat) (flo sro sco : Nat → Int32) (H3 U3 : Nat) (res3 : Int32) (dem3 kin3 low3 hig3 pri3 sta3 ups3 dow3 onn3 : Nat → Int32) (ord3 : Nat → Nat) (flo3 sro3 sco3 : Nat → Int32) (afi asz : Nat) (ik : Int32) : Prop := ∃ P' Q' : Nat → Nat, (nOK P' ∧ cD P' H U res dem kin low hig pri sta ups dow onn ∧ cS P' ord flo sro sco) ∧ (nOK Q' ∧ cD Q' H3 U3 res3 dem3 kin3 low3 hig3 pri3 sta3 ups3 dow3 onn3 ∧ cS Q' ord3 flo3 sro3 sco3) ∧ mD (W 0) P' ∧ nac = asz ∧ (afi < 16 ∧ asz ≤ 16 ∧ ∀ i, i < asz → mD (fun j => past (41 * i + j)) (va_up Z kk Q' ((afi + i) % 16))) ∧ (ik = 0 ∨ bestIs (-1000000) P' kn)
theorem vu_id {α : Type} {f : Nat → α} {k : Nat} : va_up f k (f k) = f := by
  funext j
  by_cases c : j = k
  · rw [c, vu_self]
  · rw [vu_ne c]
section AOK
variable {P : Nat → Nat} {Z : Nat → Nat → Nat} {kk afi asz : Nat} {kn : Int64} {ik : Int32} {W : Nat → Nat → Int32} {past : Nat → Int32} {H U : Nat} {res : Int32} {dem kin low hig pri sta ups dow onn : Nat → Int32} {ord : Nat → Nat} {flo sro sco : Nat → Int32} {H3 U3 : Nat} {res3 : Int32} {dem3 kin3 low3 hig3 pri3 sta3 ups3 dow3 onn3 : Nat → Int32} {ord3 : Nat → Nat} {flo3 sro3 sco3 : Nat → Int32}
theorem aOK_same (hP : nOK P) (hc : cD P H U res dem kin low hig pri sta ups dow onn) (hs : cS P ord flo sro sco) (hZ : nOK (Z kk) ∧ cD (Z kk) H3 U3 res3 dem3 kin3 low3 hig3 pri3 sta3 ups3 dow3 onn3 ∧ cS (Z kk) ord3 flo3 sro3 sco3) (hm : mD (W 0) P) (h5 : afi < 16 ∧ asz ≤ 16 ∧ ∀ i, i < asz → mD (fun j => past (41 * i + j)) (Z ((afi + i) % 16))) (h7 : ik = 0 ∨ bestIs (-1000000) P kn) : aOK Z kk kn W past asz H U res dem kin low hig pri sta ups dow onn ord flo sro sco H3 U3 res3 dem3 kin3 low3 hig3 pri3 sta3 ups3 dow3 onn3 ord3 flo3 sro3 sco3 afi asz ik := by
  refine ⟨P, Z kk, ⟨hP, hc, hs⟩, hZ, hm, rfl, ?_, h7⟩
  rw [vu_id]
  exact h5
theorem aOK_keep {W' : Nat → Nat → Int32} {P' : Nat → Nat} {H' U' : Nat} {res' : Int32} {dem' kin' low' hig' pri' sta' ups' dow' onn' : Nat → Int32} {ord' : Nat → Nat} {flo' sro' sco' : Nat → Int32} {q : Nat × Nat × Nat × Nat × Int32 × (Nat → Int32) × (Nat → Int32) × (Nat → Int32) × (Nat → Int32) × (Nat → Int32) × (Nat → Int32) × (Nat → Int32) × (Nat → Int32) × (Nat → Int32) × (Nat → Nat) × (Nat → Int32) × (Nat → Int32) × (Nat → Int32) × Int32} (hP : nOK P) (hc : cD P H U res dem kin low hig pri sta ups dow onn) (hO : ∀ j, j < 4 → ord3 j < 4) (hm : mD (W 0) P) (h5 : afi < 16 ∧ asz ≤ 16 ∧ ∀ i, i < asz → mD (fun j => past (41 * i + j)) (Z ((afi + i) % 16))) (hP' : nOK P') (hc' : cD P' H' U' res' dem' kin' low' hig' pri' sta' ups' dow' onn') (hs' : cS P' ord' flo' sro' sco') (hm' : mD (W' 0) P')
    (hq : f_UH_keepForUndo H U res dem kin low hig pri sta ups dow onn afi asz dem3 kin3 low3 hig3 pri3 sta3 ups3 dow3 onn3 ord3 flo3 sro3 sco3 = q) : aOK Z ((FI afi asz + ZS asz) % 16) kn W' (f_Model_notes W past asz).1 (f_Model_notes W past asz).2 H' U' res' dem' kin' low' hig' pri' sta' ups' dow' onn' ord' flo' sro' sco' q.2.2.1 q.2.2.2.1 q.2.2.2.2.1 q.2.2.2.2.2.1 q.2.2.2.2.2.2.1 q.2.2.2.2.2.2.2.1 q.2.2.2.2.2.2.2.2.1 q.2.2.2.2.2.2.2.2.2.1 q.2.2.2.2.2.2.2.2.2.2.1 q.2.2.2.2.2.2.2.2.2.2.2.1 q.2.2.2.2.2.2.2.2.2.2.2.2.1 q.2.2.2.2.2.2.2.2.2.2.2.2.2.1 q.2.2.2.2.2.2.2.2.2.2.2.2.2.2.1 q.2.2.2.2.2.2.2.2.2.2.2.2.2.2.2.1 q.2.2.2.2.2.2.2.2.2.2.2.2.2.2.2.2.1 q.2.2.2.2.2.2.2.2.2.2.2.2.2.2.2.2.2.1 q.1 q.2.1 q.2.2.2.2.2.2.2.2.2.2.2.2.2.2.2.2.2.2 := by
  obtain ⟨n1, n2⟩ := notes_R hm h5.1 h5.2.1 h5.2.2
  have k := cD_like (R := f_Day_becomeLike dem3 kin3 low3 hig3 pri3 sta3 ups3 dow3 onn3 ord3 flo3 sro3 sco3 H U res dem kin low hig pri sta ups dow onn) hP hc hO rfl
  unfold f_UH_keepForUndo f_Acts_keep at hq
  generalize f_Day_becomeLike dem3 kin3 low3 hig3 pri3 sta3 ups3 dow3 onn3 ord3 flo3 sro3 sco3 H U res dem kin low hig pri sta ups dow onn = B at hq k
  rw [lt_eq, lt_eq] at hq
  subst hq
  dsimp only
  exact ⟨P', P, ⟨hP', hc', hs'⟩, ⟨hP, k.1, k.2⟩, hm', n1, ⟨FI_lt h5.1, by have := ZS_le h5.2.1; omega, n2⟩, Or.inl rfl⟩
end AOK
