/-! Constructors: a new cell's address is what the heap had and what was made since -/
theorem W_sz {p : Program} {l : Launch} {e : Env} {R : Room} {s : State} {m : MethodId} {args : Array Value} {below : List Frame} {meth : Method} {c : Code} {H : Heap} {locs : List Loc} {cells slots : Nat} {Q : State → Prop} {g : JFrame} (k : H.size ≤ s.heap.size + cells → W p l e R s m args below meth c H locs cells slots Q g) : W p l e R s m args below meth c H locs cells slots Q g := fun T hT X => k (by rw [← hT]; exact X.heapSize) T hT X
def mAl (Z : mZ) (N0 mc ms ce sl : Nat) : Prop := match Z with
  | (G, (_, _, _, R, s, _, _, _, _, _), (_, cells, slots), _, _) => s.heap.size = N0 ∧ R.cells = mc ∧ R.slots = ms ∧ cells = ce ∧ slots = sl ∧ G.2.2 ≤ N0
def zG1 (Z : mZ) (k : Nat) : mZ := match Z with
  | (G, (p, l, e, R, s, m, args, below, meth, c), (nL, cells, slots), Q, L) => (G, (p, l, e, R, s, m, args, below, meth, c), (nL, cells + 1, slots + k), Q, L ++ [s.heap.size + cells])
theorem mR.push {G : mG} {L : List Nat} {h : mHp} {H H1 : Heap} {e : mC} {N : Nat} (hR : mR G L h H) (hN : H.size = N) (hP : va_P G.1 vwCl (va_pl L (m_f G.2.1 h) ++ [(N, m_re G.2.1 e)]) H1) (hD : va_D (fun q => G.2.2 ≤ q) (va_pl L (m_f G.2.1 h) ++ [(N, m_re G.2.1 e)])) : mR G (L ++ [N]) (va_up h N (some e)) H1 := by
  have hL : ∀ a, a ∈ L → a ≠ N := fun a ha z => by
    obtain ⟨k, hk⟩ := va_pl_get (X := []) (f := m_f G.2.1 h) ha
    rw [List.nil_append] at hk
    have h1 := (hR.2.1 k _ hk).lt
    have h2 : a < H.size := h1
    omega
  have e1 : va_pl (L ++ [N]) (m_f G.2.1 (va_up h N (some e))) = va_pl L (m_f G.2.1 h) ++ [(N, m_re G.2.1 e)] := by
    rw [m_f_up]
    unfold va_pl
    rw [List.map_append]
    have e2 : L.map (fun a => (a, va_up (m_f G.2.1 h) N (m_re G.2.1 e) a)) = L.map (fun a => (a, m_f G.2.1 h a)) := List.map_congr_left (fun a ha => by rw [va_up, if_neg (hL a ha)])
    rw [e2]
    simp [va_up]
  refine ⟨fun b x hb => ?_, by rw [e1]; exact hP, by rw [e1]; exact hD⟩
  by_cases hba : b = N
  · rw [hba]; exact List.mem_append_right _ (List.mem_singleton.mpr rfl)
  · rw [va_up, if_neg hba] at hb; exact List.mem_append_left _ (hR.1 b x hb)
theorem mCx.g1 {Z : mZ} {own : String} {cc : ByteArray} {nL n N0 mc ms ce sl k : Nat} (X : mCx Z own cc nL n) (A : mAl Z N0 mc ms ce sl) (h1 : ce + 1 ≤ mc) (h2 : sl + k ≤ ms) : mCx (zG1 Z k) own cc nL n := by
  obtain ⟨G, ⟨p, l, e, R, s, m, args, below, meth, c⟩, ⟨nL', cells, slots⟩, Q, L⟩ := Z
  obtain ⟨a1, a2, a3, a4, a5, a6⟩ := A
  obtain ⟨x1, x2, x3, x4, x5, x6, x7, x8, x9, x10, x11⟩ := X
  exact ⟨x1, x2, x3, x4, x5, x6, x7, x8, x9, by omega, by omega⟩
theorem mAl.g1 {Z : mZ} {N0 mc ms ce sl k : Nat} (A : mAl Z N0 mc ms ce sl) : mAl (zG1 Z k) N0 mc ms (ce + 1) (sl + k) := by
  obtain ⟨G, ⟨p, l, e, R, s, m, args, below, meth, c⟩, ⟨nL', cells, slots⟩, Q, L⟩ := Z
  obtain ⟨a1, a2, a3, a4, a5, a6⟩ := A
  exact ⟨a1, a2, a3, by omega, by omega, a6⟩
theorem zG1_1 {Z : mZ} {k : Nat} : (zG1 Z k).1 = Z.1 := rfl
section NEWR
variable {Z : mZ} {own : String} {cc : ByteArray} {nL n pc N0 mc ms ce sl : Nat} {lv : List (Nat × Value)} {st : List Value} {h : mHp}
theorem al_sz {G : mG} {L : List Nat} {s : State} {H : Heap} {locs : List Loc} (hR : mR G L h H) (hS : va_S (fun q => G.2.2 ≤ q) s.heap H locs) (h0 : s.heap.size = N0) (hf : ce = 0 ∨ ∃ e, h (N0 + ce - 1) = some e) (hsz : H.size ≤ N0 + ce) : H.size = N0 + ce := by
  have h1 : s.heap.size ≤ H.size := hS.1
  rcases hf with z | ⟨e, he⟩
  · omega
  · obtain ⟨q, hq⟩ := hR.get he
    have h2 := (hR.2.1 q _ hq).lt
    have h3 : N0 + ce - 1 < H.size := h2
    omega
theorem r_newi (X : mCx Z own cc nL n) (A : mAl Z N0 mc ms ce sl) {N : Nat} (hN : N < 1000000) (hf : ce = 0 ∨ ∃ e, h (N0 + ce - 1) = some e) (h1 : ce + 1 ≤ mc) (h2 : sl + N ≤ ms) (d : decode cc pc = .ok (.newarray .int, 2)) (k : SW (zG1 Z N) (pc + 2) lv (.ref (N0 + ce) :: st) (va_up h (N0 + ce) (some (.inl (0, N, .inl (fun _ => 0)))))) : SW Z pc lv (.int (nI N) :: st) h := by
  obtain ⟨G, ⟨p, l, e, R, s, m, args, below, meth, c⟩, ⟨nL', cells, slots⟩, Q, L⟩ := Z
  obtain ⟨a1, a2, a3, a4, a5, a6⟩ := A
  intro H locs ls hR hS hl
  refine W_sz fun hsz => ?_
  have hH : H.size = N0 + ce := al_sz hR hS a1 hf (by omega)
  have wa : Cond.arrayClass .int ∈ gtbl := wG 125 (by decide +kernel) (by decide +kernel)
  refine va_newaK (atype := .int) X.1 X.2.1 (X.2.2.2.2.2.1 _ wa) rfl d rfl (nI_nneg (by omega)) (nI_clamp (by omega)) (by show N * 4 ≤ 536870912; omega) (by omega) (by omega) hH fun H1 cA e1 z1 o1 hAr hNm => ?_
  have hK := (X.2.2.2.2.2.2.1.1.2 0 _ rfl).2
  have hc0 : cA = G.2.1 0 := Option.some.inj (hNm.symm.trans hK)
  subst hc0
  have hk : ∀ (k : Nat) (x : Nat × va_E), (va_pl L (m_f G.2.1 h))[k]? = some x → H1[x.1]? = H[x.1]? := fun k x hx => o1 x.1 (by have := (hR.2.1 k x hx).lt; omega)
  subst a1 a4
  refine k H1 locs ls (hR.push hH ((hR.2.1.kept hk).app (fun k x hx => ?_)) (hR.2.2.push hR.2.1 hH.symm (by show G.2.2 ≤ _; omega))) ⟨by omega, fun x q1 q2 => (o1 x (by have := hS.1; omega)).trans (hS.2.1 x q1 q2), hS.2.2⟩ hl
  have hz : k < 1 := (List.getElem?_eq_some_iff.mp hx).1
  rw [show k = 0 by omega] at hx
  cases hx
  exact e1
end NEWR
