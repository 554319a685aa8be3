theorem vaD_snoc {A : Nat → Prop} {ws : va_W} {N : Nat} {e : va_E} (hD : va_D A ws) (hlt : ∀ (k : Nat) (x : Nat × va_E), ws[k]? = some x → x.1 < N) (hA : A N) : va_D A (ws ++ [(N, e)]) := by
  have hr : ∀ (k : Nat) (x : Nat × va_E), (ws ++ [(N, e)])[k]? = some x → (k < ws.length ∧ ws[k]? = some x) ∨ (k = ws.length ∧ x.1 = N) := fun k x hx => by
    by_cases h1 : k < ws.length
    · rw [List.getElem?_append_left h1] at hx; exact Or.inl ⟨h1, hx⟩
    · rw [List.getElem?_append_right (by omega)] at hx
      have h0 : k - ws.length < 1 := (List.getElem?_eq_some_iff.mp hx).1
      have hk : k - ws.length = 0 := by omega
      rw [hk] at hx
      cases hx
      exact Or.inr ⟨by omega, rfl⟩
  refine ⟨fun i j x y hi hj hxy => ?_, fun k x hx => ?_⟩
  · rcases hr i x hi with ⟨a1, a2⟩ | ⟨a1, a2⟩ <;> rcases hr j y hj with ⟨b1, b2⟩ | ⟨b1, b2⟩
    · exact hD.1 i j x y a2 b2 hxy
    · have := hlt _ _ a2; omega
    · have := hlt _ _ b2; omega
    · omega
  · rcases hr k x hx with ⟨a1, a2⟩ | ⟨a1, a2⟩
    · exact hD.2 k x a2
    · rw [a2]; exact hA
theorem mR.put1 {G : mG} {L : List Nat} {h : mHp} {H1 : Heap} {e : mC} {N : Nat} (hR : mR G L h H1) (hL : ∀ a, a ∈ L → a < N) (hG : G.2.2 ≤ N) (hc : va_P G.1 vwCl [(N, m_re G.2.1 e)] H1) : mR G (L ++ [N]) (va_up h N (some e)) H1 := by
  have e1 : va_pl (L ++ [N]) (m_f G.2.1 (va_up h N (some e))) = va_pl L (m_f G.2.1 h) ++ [(N, m_re G.2.1 e)] := by
    rw [m_f_up]
    unfold va_pl
    rw [List.map_append]
    have e2 : L.map (fun a => (a, va_up (m_f G.2.1 h) N (m_re G.2.1 e) a)) = L.map (fun a => (a, m_f G.2.1 h a)) := List.map_congr_left (fun a ha => by rw [va_up, if_neg (Nat.ne_of_lt (hL a ha))])
    rw [e2]
    simp [va_up]
  have hlt : ∀ (k : Nat) (x : Nat × va_E), (va_pl L (m_f G.2.1 h))[k]? = some x → x.1 < N := fun k x hx => by
    obtain ⟨a, ha, rfl⟩ := List.mem_map.mp (List.mem_of_getElem? hx)
    exact hL a ha
  refine ⟨fun b x hb => ?_, by rw [e1]; exact hR.2.1.app hc, by rw [e1]; exact vaD_snoc hR.2.2 hlt hG⟩
  by_cases hba : b = N
  · rw [hba]; exact List.mem_append_right _ (List.mem_singleton.mpr rfl)
  · rw [va_up, if_neg hba] at hb; exact List.mem_append_left _ (hR.1 b x hb)
theorem ov_cons {h : mHp} {N : Nat} {e : mC} {cs : List mC} : ov (va_up h N (some e)) (N + 1) cs = ov h N (e :: cs) := by
  funext a
  show (if N + 1 ≤ a ∧ a < N + 1 + cs.length then cs[a - (N + 1)]? else va_up h N (some e) a) = if N ≤ a ∧ a < N + (cs.length + 1) then (e :: cs)[a - N]? else h a
  by_cases h1 : a = N
  · subst h1
    rw [if_neg (by omega), if_pos ⟨Nat.le_refl _, by omega⟩, va_up, if_pos rfl, Nat.sub_self]
    rfl
  · by_cases h2 : N + 1 ≤ a ∧ a < N + 1 + cs.length
    · rw [if_pos h2, if_pos ⟨by omega, by omega⟩, show a - N = (a - (N + 1)) + 1 by omega, List.getElem?_cons_succ]
    · rw [if_neg h2, if_neg (by omega), va_up, if_neg h1]
theorem ov_nil {h : mHp} {N : Nat} : ov h N [] = h := by
  funext a
  show (if N ≤ a ∧ a < N + 0 then _ else h a) = h a
  rw [if_neg (by omega)]
theorem ov_cat {h : mHp} {d a : Nat} {L K M : List mC} (hM : L ++ K = M) (ha : a = d + L.length) : ov (ov h d L) a K = ov h d M := by
  subst hM ha
  funext b
  show (if d + L.length ≤ b ∧ b < d + L.length + K.length then K[b - (d + L.length)]? else if d ≤ b ∧ b < d + L.length then L[b - d]? else h b) = if d ≤ b ∧ b < d + (L ++ K).length then (L ++ K)[b - d]? else h b
  have hl : (L ++ K).length = L.length + K.length := List.length_append
  by_cases z : d + L.length ≤ b ∧ b < d + L.length + K.length
  · rw [if_pos z, if_pos ⟨by omega, by omega⟩, List.getElem?_append_right (by omega), Nat.sub_add_eq]
  · rw [if_neg z]
    by_cases y : d ≤ b ∧ b < d + L.length
    · rw [if_pos y, if_pos ⟨y.1, by omega⟩, List.getElem?_append_left (by omega)]
    · rw [if_neg y, if_neg (by omega)]
theorem mR.ext {G : mG} {H1 : Heap} : ∀ (cs : List mC) (L : List Nat) (h : mHp) (N : Nat), mR G L h H1 → (∀ a, a ∈ L → a < N) → G.2.2 ≤ N → (∀ (j : Nat) (e : mC), cs[j]? = some e → va_P G.1 vwCl [(N + j, m_re G.2.1 e)] H1) → mR G (L ++ aN N cs.length) (ov h N cs) H1 := by
  intro cs
  induction cs with
  | nil =>
    intro L h N hR _ _ _
    rw [ov_nil]
    show mR G (L ++ []) h H1
    rw [List.append_nil]
    exact hR
  | cons e cs ih =>
    intro L h N hR hL hG hc
    have h1 := mR.put1 hR hL hG (hc 0 e rfl)
    have h2 := ih (L ++ [N]) _ (N + 1) h1 (fun a ha => by
      rcases List.mem_append.mp ha with q | q
      · have := hL a q; omega
      · rw [List.mem_singleton.mp q]; omega) (by omega) (fun j x hx => by
      have := hc (j + 1) x hx
      rw [show N + 1 + j = N + (j + 1) by omega]
      exact this)
    rw [ov_cons, List.append_assoc] at h2
    have e9 : aN N (cs.length + 1) = [N] ++ aN (N + 1) cs.length := by
      rw [Nat.add_comm, aN_a]
      rfl
    show mR G (L ++ aN N (cs.length + 1)) _ H1
    rw [e9]
    exact h2
def mnL (a N K : Nat) : List mC := .inl (4, N, .inr (.inr (.inr (.inr (fun i => if i < N then some (a + 1 + i) else none))))) :: List.replicate N (.inl (0, K, .inl (fun _ => 0)))
theorem mnL_len (a N K : Nat) : (mnL a N K).length = 1 + N := by
  show (List.replicate N _).length + 1 = 1 + N
  rw [List.length_replicate, Nat.add_comm]
theorem vaP_one {G : mG} {a : Nat} {H1 : Heap} {x : Nat × vp_A} (hc : H1[a]? = some (vp_cell (G.2.1 x.1) x.2)) : va_P G.1 vwCl [(a, m_re G.2.1 (.inl x))] H1 := by
  intro k y hy
  have hz : k < 1 := (List.getElem?_eq_some_iff.mp hy).1
  rw [show k = 0 by omega] at hy
  cases hy
  exact hc
section MNAR
variable {Z : mZ} {own : String} {cc : ByteArray} {nL n pc N0 mc ms ce sl : Nat} {lv : List (Nat × Value)} {st : List Value} {h : mHp}
theorem r_mna (X : mCx Z own cc nL n) (A : mAl Z N0 mc ms ce sl) (O : mCo Z) {N K ix : Nat} (hN : N < 1000000) (hK : K < 1000000) (wl : Cond.classLink own ix "[[I" ∈ gtbl) (hf : ce = 0 ∨ ∃ e, h (N0 + ce - 1) = some e) (h1 : ce + (1 + N) ≤ mc) (h2 : sl + (N + N * K) ≤ ms) (d : decode cc pc = .ok (.multianewarray ix 2, 4)) (k : SW (zGk Z (1 + N) (N + N * K)) (pc + 4) lv (.ref (N0 + ce) :: st) (ov h (N0 + ce) (mnL (N0 + ce) N K))) : SW Z pc lv (.int (nI K) :: .int (nI N) :: st) h := by
  obtain ⟨G, ⟨p, l, e, R, s, m, args, below, meth, c⟩, ⟨nL', cells, slots⟩, Q, L⟩ := Z
  obtain ⟨a1, a2, a3, a4, a5, a6⟩ := A
  obtain ⟨x1, x2, x3, x4, x5, hts, hI, x8, x9, x10, x11⟩ := X
  intro H locs ls hR hS hl
  refine W_sz fun hsz => ?_
  have hH : H.size = N0 + ce := al_sz hR hS a1 hf (by omega)
  have wa : Cond.arrayClass .int ∈ gtbl := wG 125 (by decide +kernel) (by decide +kernel)
  refine mna_W x1 x2 x5 (hts _ wl) O.2 (hts _ wa) (nI_nneg (by omega)) (nI_nneg (by omega)) (nI_clamp (by omega)) (nI_clamp (by omega)) (by omega) (by omega) (by rw [a2, a4]; exact h1) (by rw [a3, a5]; exact h2) d fun cA cy H1 fA fC z1 o1 c1 c2 => ?_
  have q4 : cA = G.2.1 4 := Option.some.inj (fA.symm.trans (hI.1.2 4 _ rfl).2)
  have q0 : cy = G.2.1 0 := Option.some.inj (fC.symm.trans (hI.1.2 0 _ rfl).2)
  subst q4 q0
  have hk : ∀ (k : Nat) (x : Nat × va_E), (va_pl L (m_f G.2.1 h))[k]? = some x → H1[x.1]? = H[x.1]? := fun k x hx => o1 x.1 ((hR.2.1 k x hx).lt)
  have hR1 : mR G L h H1 := ⟨hR.1, hR.2.1.kept hk, hR.2.2⟩
  have hLt : ∀ a, a ∈ L → a < N0 + ce := fun a ha => by
    obtain ⟨k, hk⟩ := va_pl_get (X := []) (f := m_f G.2.1 h) ha
    rw [List.nil_append] at hk
    have h3 := (hR.2.1 k _ hk).lt
    have h4 : a < H.size := h3
    omega
  rw [hH] at c1 c2 z1 ⊢
  have hE := mR.ext (mnL (N0 + ce) N K) L h (N0 + ce) hR1 hLt (by omega) (fun j x hx => by
    cases j with
    | zero => cases hx; exact vaP_one c1
    | succ j =>
      have hj : (List.replicate N (Sum.inl (0, K, Sum.inl (fun _ => 0)) : mC))[j]? = some x := hx
      have hlt : j < N := by
        have := (List.getElem?_eq_some_iff.mp hj).1
        rwa [List.length_replicate] at this
      rw [List.getElem?_replicate, if_pos hlt] at hj
      cases hj
      have := c2 j hlt
      rw [show N0 + ce + (j + 1) = N0 + ce + 1 + j by omega]
      exact vaP_one this)
  rw [mnL_len] at hE
  subst a1 a4
  rw [Nat.add_assoc cells 1 N, Nat.add_assoc slots N (N * K)]
  exact k H1 locs ls hE ⟨by have := hS.1; omega, fun x q1 q2 => (o1 x (by have := hS.1; omega)).trans (hS.2.1 x q1 q2), hS.2.2⟩ hl
end MNAR
