/-! Views: cells at addresses one behind the other; overlays; rows over numbers -/
def isV (h : mHp) (d : Nat) (L : List mC) : Prop := ∀ (j : Nat) (c : mC), L[j]? = some c → h (d + j) = some c
def ov (h : mHp) (d : Nat) (L : List mC) : mHp := fun a => if d ≤ a ∧ a < d + L.length then L[a - d]? else h a
theorem ov_isV {h : mHp} {d : Nat} {L : List mC} : isV (ov h d L) d L := by
  intro j c hj
  have hl := (List.getElem?_eq_some_iff.mp hj).1
  unfold ov
  rw [if_pos ⟨by omega, by omega⟩, show d + j - d = j by omega, hj]
theorem ov_out {h : mHp} {d a : Nat} {L : List mC} (ha : a < d ∨ d + L.length ≤ a) : ov h d L a = h a := by
  unfold ov
  rw [if_neg (by omega)]
theorem ov_in {h : mHp} {d j : Nat} {L : List mC} (hj : j < L.length) : ov h d L (d + j) = L[j]? := by
  unfold ov
  rw [if_pos ⟨by omega, by omega⟩, show d + j - d = j by omega]
theorem isV_ov {h : mHp} {d e : Nat} {L K : List mC} (hd : e + K.length ≤ d ∨ d + L.length ≤ e) (hv : isV h e K) : isV (ov h d L) e K := by
  intro j c hj
  have hl := (List.getElem?_eq_some_iff.mp hj).1
  rw [ov_out (by omega)]
  exact hv j c hj
theorem ov_self {h : mHp} {d : Nat} {L : List mC} (hv : isV h d L) : ov h d L = h := by
  funext a
  by_cases ha : d ≤ a ∧ a < d + L.length
  · have hl : a - d < L.length := by omega
    have h1 := hv (a - d) L[a - d] (List.getElem?_eq_getElem hl)
    rw [show d + (a - d) = a by omega] at h1
    rw [h1]
    unfold ov
    rw [if_pos ha, List.getElem?_eq_getElem hl]
  · unfold ov
    rw [if_neg ha]
theorem ov_ov {h : mHp} {d : Nat} {L K : List mC} (hl : L.length = K.length) : ov (ov h d L) d K = ov h d K := by
  funext a
  unfold ov
  by_cases ha : d ≤ a ∧ a < d + K.length
  · rw [if_pos ha, if_pos ha]
  · rw [if_neg ha, if_neg (by rw [hl]; exact ha), if_neg ha]
theorem ov_comm {h : mHp} {d e : Nat} {L K : List mC} (hd : d + L.length ≤ e ∨ e + K.length ≤ d) : ov (ov h d L) e K = ov (ov h e K) d L := by
  funext a
  unfold ov
  by_cases h1 : d ≤ a ∧ a < d + L.length
  · rw [if_pos h1, if_neg (by omega), if_pos h1]
  · rw [if_neg h1, if_neg h1]
theorem ov_up {h : mHp} {d : Nat} {L K : List mC} {c : mC} (j : Nat) (hj : j < L.length) (hK : L.set j c = K) : va_up (ov h d L) (d + j) (some c) = ov h d K := by
  subst hK
  funext a
  unfold va_up ov
  by_cases ha : a = d + j
  · subst ha
    rw [if_pos rfl, if_pos ⟨by omega, by rw [List.length_set]; omega⟩, show d + j - d = j by omega, List.getElem?_set_self hj]
  · rw [if_neg ha]
    by_cases hb : d ≤ a ∧ a < d + L.length
    · rw [if_pos hb, if_pos (by rw [List.length_set]; exact hb), List.getElem?_set_ne (by omega)]
    · rw [if_neg hb, if_neg (by rw [List.length_set]; exact hb)]
theorem ov_up2 {h h1 : mHp} {d e : Nat} {K : List mC} {c : mC} {n : Nat} (hd : d + n ≤ e ∨ e + K.length ≤ d) (j : Nat) (hj : j < n) (hu : va_up h (d + j) (some c) = h1) : va_up (ov h e K) (d + j) (some c) = ov h1 e K := by
  subst hu
  funext a
  unfold va_up ov
  by_cases ha : a = d + j
  · subst ha
    rw [if_pos rfl, if_neg (by omega)]
    dsimp only
    rw [if_pos rfl]
  · rw [if_neg ha]
    by_cases hb : e ≤ a ∧ a < e + K.length
    · rw [if_pos hb, if_pos hb]
    · rw [if_neg hb, if_neg hb]
      dsimp only
      rw [if_neg ha]
theorem m_join {P Q : Prop} (a : P → Q) (b : P) : Q := a b
theorem loop_up {P : Nat → Prop} (n : Nat) (hx : P n) (hs : ∀ k, k < n → P (k + 1) → P k) : ∀ k, k ≤ n → P k := by
  have key : ∀ j, j ≤ n → P (n - j) := by
    intro j
    induction j with
    | zero => intro _; exact hx
    | succ j ih =>
      intro hj
      have h1 := ih (by omega)
      refine hs (n - (j + 1)) (by omega) ?_
      rw [show n - (j + 1) + 1 = n - j by omega]
      exact h1
  intro k hk
  have := key (n - k) (by omega)
  rwa [show n - (n - k) = k by omega] at this
theorem nI_decr {n : Nat} (h : 0 < n) : nI n + Int32.ofInt (-1) = nI (n - 1) := by
  obtain ⟨m, rfl⟩ : ∃ m, n = m + 1 := ⟨n - 1, by omega⟩
  exact pk_m1 m
section MNUM
variable {Z : mZ} {own : String} {cc : ByteArray} {nL n pc : Nat} {lv lv' : List (Nat × Value)} {st : List Value} {h : mHp}
theorem SW.heq {h2 : mHp} (e : h = h2) (k : SW Z pc lv st h2) : SW Z pc lv st h := e ▸ k
theorem SW.pick (ks : List Nat) (lv' : List (Nat × Value)) (hl : lv_pick lv ks = lv') (k : SW Z pc lv' st h) : SW Z pc lv st h := by
  refine SW.sub lv (fun q hq => ?_) k
  rw [← hl] at hq
  obtain ⟨i, -, hi⟩ := List.mem_filterMap.mp hq
  exact List.mem_of_getElem? hi
theorem r_iaddn (X : mCx Z own cc nL n) {a b : Nat} (d : decode cc pc = .ok (.iadd, 1)) (k : SW Z (pc + 1) lv (.int (nI (a + b)) :: st) h) : SW Z pc lv (.int (nI b) :: .int (nI a) :: st) h := r_iadd X d (by rw [nI_add]; exact k)
theorem r_imuln (X : mCx Z own cc nL n) {a b : Nat} (d : decode cc pc = .ok (.imul, 1)) (k : SW Z (pc + 1) lv (.int (nI (a * b)) :: st) h) : SW Z pc lv (.int (nI b) :: .int (nI a) :: st) h := r_imul X d (by rw [pk_mul]; exact k)
theorem r_isubn (X : mCx Z own cc nL n) {a b : Nat} (d : decode cc pc = .ok (.isub, 1)) (hb : b ≤ a) (k : SW Z (pc + 1) lv (.int (nI (a - b)) :: st) h) : SW Z pc lv (.int (nI b) :: .int (nI a) :: st) h := r_isub X d (by rw [pk_sub hb]; exact k)
theorem r_idivn (X : mCx Z own cc nL n) {a b : Nat} (d : decode cc pc = .ok (.idiv, 1)) (ha : a < 2 ^ 31) (h0 : 0 < b) (hb : b < 2 ^ 31) (k : SW Z (pc + 1) lv (.int (nI (a / b)) :: st) h) : SW Z pc lv (.int (nI b) :: .int (nI a) :: st) h := r_idiv X d (nI_ne0 h0 hb) (by rw [pk_div ha h0 hb]; exact k)
theorem r_iremn (X : mCx Z own cc nL n) {a b : Nat} (d : decode cc pc = .ok (.irem, 1)) (ha : a < 2 ^ 31) (h0 : 0 < b) (hb : b < 2 ^ 31) (k : SW Z (pc + 1) lv (.int (nI (a % b)) :: st) h) : SW Z pc lv (.int (nI b) :: .int (nI a) :: st) h := r_irem X d (nI_ne0 h0 hb) (by rw [pk_rem ha h0 hb]; exact k)
theorem r_ialdn (X : mCx Z own cc nL n) {a N k0 : Nat} {f : Nat → Int32} (d : decode cc pc = .ok (.iaload, 1)) (he : h a = some (.inl (0, N, .inl f))) (hi : k0 < N) (hN : N < 2 ^ 31) (k : SW Z (pc + 1) lv (.int (f k0) :: st) h) : SW Z pc lv (.int (nI k0) :: .ref a :: st) h := r_iald X (f k0) d he (vp_in_nI hi hN) (by rw [nI_clamp (by omega)]) k
theorem r_laldn (X : mCx Z own cc nL n) {a N k0 : Nat} {f : Nat → Int64} (d : decode cc pc = .ok (.laload, 1)) (he : h a = some (.inl (1, N, .inr (.inl f)))) (hi : k0 < N) (hN : N < 2 ^ 31) (k : SW Z (pc + 1) lv (.long (f k0) :: st) h) : SW Z pc lv (.int (nI k0) :: .ref a :: st) h := r_lald X (f k0) d he (vp_in_nI hi hN) (by rw [nI_clamp (by omega)]) k
theorem r_zaldn (X : mCx Z own cc nL n) {a N k0 : Nat} {f : Nat → Int32} (d : decode cc pc = .ok (.baload, 1)) (he : h a = some (.inl (2, N, .inl f))) (hi : k0 < N) (hN : N < 2 ^ 31) (k : SW Z (pc + 1) lv (.int (f k0) :: st) h) : SW Z pc lv (.int (nI k0) :: .ref a :: st) h := r_zald X (f k0) d he (vp_in_nI hi hN) (by rw [nI_clamp (by omega)]) k
theorem r_ialdv (X : mCx Z own cc nL n) {a N k0 : Nat} {f : Nat → Int32} {v : Int32} (d : decode cc pc = .ok (.iaload, 1)) (he : h a = some (.inl (0, N, .inl f))) (hi : k0 < N) (hN : N < 2 ^ 31) (hv : f k0 = v) (k : SW Z (pc + 1) lv (.int v :: st) h) : SW Z pc lv (.int (nI k0) :: .ref a :: st) h := r_iald X v d he (vp_in_nI hi hN) (by rw [nI_clamp (by omega)]; exact hv) k
theorem r_iastn (X : mCx Z own cc nL n) {a N k0 : Nat} {f : Nat → Int32} {x : Int32} (d : decode cc pc = .ok (.iastore, 1)) (he : h a = some (.inl (0, N, .inl f))) (hi : k0 < N) (hN : N < 2 ^ 31) (k : SW Z (pc + 1) lv st (va_up h a (some (.inl (0, N, .inl (upd f k0 x)))))) : SW Z pc lv (.int x :: .int (nI k0) :: .ref a :: st) h := r_iast X d he (vp_in_nI hi hN) (by rw [nI_clamp (by omega)]; exact k)
theorem r_lastn (X : mCx Z own cc nL n) {a N k0 : Nat} {f : Nat → Int64} {x : Int64} (d : decode cc pc = .ok (.lastore, 1)) (he : h a = some (.inl (1, N, .inr (.inl f)))) (hi : k0 < N) (hN : N < 2 ^ 31) (k : SW Z (pc + 1) lv st (va_up h a (some (.inl (1, N, .inr (.inl (vp_updL f k0 x))))))) : SW Z pc lv (.long x :: .int (nI k0) :: .ref a :: st) h := r_last X d he (vp_in_nI hi hN) (by rw [nI_clamp (by omega)]; exact k)
end MNUM
