theorem vp_q_eq {cA : ClassId} {N : Nat} {f g : Nat → Option Nat} (h : ∀ i, i < N → f i = g i) : vp_cell cA (N, .inr (.inr (.inr (.inr f)))) = vp_cell cA (N, .inr (.inr (.inr (.inr g)))) := by
  rw [vp_cell_q, vp_cell_q]
  unfold arrV
  congr 1
  apply congrArg
  funext j
  show va_rf (f j.val) = va_rf (g j.val)
  rw [h j.val j.isLt]
theorem SW.recell {Z : mZ} {pc : Nat} {lv : List (Nat × Value)} {st : List Value} {h : mHp} {a N ci : Nat} {f g : Nat → Option Nat} (he : h a = some (.inl (ci, N, .inr (.inr (.inr (.inr f)))))) (hfg : ∀ i, i < N → f i = g i) (k : SW Z pc lv st (va_up h a (some (.inl (ci, N, .inr (.inr (.inr (.inr g)))))))) : SW Z pc lv st h := by
  obtain ⟨G, ⟨p, l, e, R, s, m, args, below, meth, c⟩, ⟨nL', cells, slots⟩, Q, L⟩ := Z
  intro H locs ls hR hS hl
  obtain ⟨q, hq⟩ := hR.get he
  refine k H locs ls (hR.set (e := .inl (ci, N, .inr (.inr (.inr (.inr g))))) he hq (fun i x hx => ?_) ⟨fun i j x y hx hy hxy => ?_, fun i x hx => ?_⟩) hS hl
  · by_cases z : q = i
    · subst z
      rw [List.getElem?_set_self (List.getElem?_eq_some_iff.mp hq).1] at hx
      cases hx
      have h0 := hR.2.1 q _ hq
      show H[a]? = some (vp_cell _ _)
      rw [← vp_q_eq hfg]
      exact h0
    · rw [List.getElem?_set_ne z] at hx
      exact hR.2.1 i x hx
  · have key : ∀ (i : Nat) (x : Nat × va_E), ((va_pl L (m_f G.2.1 h)).set q (a, m_re G.2.1 (.inl (ci, N, .inr (.inr (.inr (.inr g)))))))[i]? = some x → ∃ y : Nat × va_E, (va_pl L (m_f G.2.1 h))[i]? = some y ∧ y.1 = x.1 := by
      intro i x hx
      by_cases z : q = i
      · subst z
        rw [List.getElem?_set_self (List.getElem?_eq_some_iff.mp hq).1] at hx
        cases hx
        exact ⟨_, hq, rfl⟩
      · rw [List.getElem?_set_ne z] at hx
        exact ⟨x, hx, rfl⟩
    obtain ⟨x', hx', ex⟩ := key i x hx
    obtain ⟨y', hy', ey⟩ := key j y hy
    exact hR.2.2.1 i j x' y' hx' hy' (by rw [ex, ey]; exact hxy)
  · by_cases z : q = i
    · subst z
      rw [List.getElem?_set_self (List.getElem?_eq_some_iff.mp hq).1] at hx
      cases hx
      have h9 := hR.2.2.2 q _ hq
      exact h9
    · rw [List.getElem?_set_ne z] at hx
      exact hR.2.2.2 i x hx
