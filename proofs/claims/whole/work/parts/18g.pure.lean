section NEWD
variable {Z : mZ} {own : String} {cc : ByteArray} {nL n pc N0 mc ms ce sl : Nat} {lv : List (Nat × Value)} {st : List Value} {h : mHp}
theorem r_anewD (X : mCx Z own cc nL n) (A : mAl Z N0 mc ms ce sl) (O : mCo Z) {N ix : Nat} (hN : N < 1000000) (wl : Cond.classLink own ix "UnitHours$Day" ∈ gtbl) (hf : ce = 0 ∨ ∃ e, h (N0 + ce - 1) = some e) (h1 : ce + 1 ≤ mc) (h2 : sl + N ≤ ms) (d : decode cc pc = .ok (.anewarray ix, 3)) (k : SW (zG1 Z N) (pc + 3) lv (.ref (N0 + ce) :: st) (va_up h (N0 + ce) (some (.inl (3, N, .inr (.inr (.inr (.inr (fun _ => none))))))))) : SW Z pc lv (.int (nI N) :: st) h := by
  obtain ⟨G, ⟨p, l, e, R, s, m, args, below, meth, c⟩, ⟨nL', cells, slots⟩, Q, L⟩ := Z
  obtain ⟨a1, a2, a3, a4, a5, a6⟩ := A
  obtain ⟨x1, x2, x3, x4, x5, hts, hI, x8, x9, x10, x11⟩ := X
  intro H locs ls hR hS hl
  refine W_sz fun hsz => ?_
  have hH : H.size = N0 + ce := al_sz hR hS a1 hf (by omega)
  have hn : (nI N).toNatClampNeg = N := nI_clamp (by omega)
  refine W.anew x1 x2 x5 (hts _ wl) (va_AO.use O.1) rfl d rfl (nI_nneg (by omega)) (by rw [hn]; omega) (by omega) (by rw [hn]; omega) fun cA kA comp q1 q2 q3 q4 => ?_
  rw [hn]
  have hK := (hI.1.2 3 _ rfl).2
  obtain ⟨_, _, _, _, _, hKf⟩ := hK
  have hc0 : cA = G.2.1 3 := Option.some.inj (q1.symm.trans hKf)
  subst hc0
  have e1 : (H.push ({ cls := G.2.1 3, slots := Array.replicate N .null, vm := .none } : Cell))[N0 + ce]? = some (vp_cell (G.2.1 3) (N, .inr (.inr (.inr (.inr (fun _ => none)))))) := by
    rw [← hH, vp_cell_q]
    simp [va_rf, ← arrV_new]
  have o1 : ∀ q, q < H.size → (H.push ({ cls := G.2.1 3, slots := Array.replicate N .null, vm := .none } : Cell))[q]? = H[q]? := fun q hq => by
    rw [Array.getElem?_push, if_neg (Nat.ne_of_lt hq)]
  have z1 : (H.push ({ cls := G.2.1 3, slots := Array.replicate N .null, vm := .none } : Cell)).size = H.size + 1 := Array.size_push ..
  generalize H.push ({ cls := G.2.1 3, slots := Array.replicate N .null, vm := .none } : Cell) = H1 at e1 o1 z1 ⊢
  have hk : ∀ (k : Nat) (x : Nat × va_E), (va_pl L (m_f G.2.1 h))[k]? = some x → H1[x.1]? = H[x.1]? := fun k x hx => o1 x.1 ((hR.2.1 k x hx).lt)
  rw [hH]
  subst a1 a4
  refine k H1 locs ls (hR.push hH ((hR.2.1.kept hk).app (fun k x hx => ?_)) (hR.2.2.push hR.2.1 hH.symm (by show G.2.2 ≤ _; omega))) ⟨by have := hS.1; omega, fun x q1 q2 => (o1 x (by have := hS.1; omega)).trans (hS.2.1 x q1 q2), hS.2.2⟩ hl
  have hz : k < 1 := (List.getElem?_eq_some_iff.mp hx).1
  rw [show k = 0 by omega] at hx
  cases hx
  exact e1
theorem r_aastD (X : mCx Z own cc nL n) {a v N k0 : Nat} {f : Nat → Option Nat} {vs : List Value} (d : decode cc pc = .ok (.aastore, 1)) (he : h a = some (.inl (3, N, .inr (.inr (.inr (.inr f)))))) (hv : h v = some (.inr (2, vs))) (hi : k0 < N) (hN : N < 2 ^ 31) (k : SW Z (pc + 1) lv st (va_up h a (some (.inl (3, N, .inr (.inr (.inr (.inr (va_up f k0 (some v)))))))))) : SW Z pc lv (.ref v :: .int (nI k0) :: .ref a :: st) h := by
  obtain ⟨G, ⟨p, l, e, R, s, m, args, below, meth, c⟩, ⟨nL', cells, slots⟩, Q, L⟩ := Z
  intro H locs ls hR hS hl
  obtain ⟨q, hq⟩ := hR.get he
  obtain ⟨qv, hqv⟩ := hR.get hv
  refine va_astq (r := (RX2, TX2, 16)) X.1 X.2.1 X.2.2.2.2.2.2.1.1 hR.2.1 hR.2.2 hS q 3 qv 2 hq rfl hqv rfl (vp_in_nI hi hN) d (fun H1 locs1 hP hD hS1 => ?_)
  rw [nI_clamp (by omega)] at hP hD
  exact k H1 locs1 ls (hR.set (e := .inl (3, N, .inr (.inr (.inr (.inr (va_up f k0 (some v))))))) he hq hP hD) hS1 hl
end NEWD
