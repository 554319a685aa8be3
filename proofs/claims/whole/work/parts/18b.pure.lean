section NEWS
variable {Z : mZ} {own : String} {cc : ByteArray} {nL n pc N0 mc ms ce sl : Nat} {lv : List (Nat × Value)} {st : List Value} {h : mHp}
theorem r_newj (X : mCx Z own cc nL n) (A : mAl Z N0 mc ms ce sl) {N : Nat} (hN : N < 1000000) (hf : ce = 0 ∨ ∃ e, h (N0 + ce - 1) = some e) (h1 : ce + 1 ≤ mc) (h2 : sl + N ≤ ms) (d : decode cc pc = .ok (.newarray .long, 2)) (k : SW (zG1 Z N) (pc + 2) lv (.ref (N0 + ce) :: st) (va_up h (N0 + ce) (some (.inl (1, N, .inr (.inl (fun _ => 0))))))) : SW Z pc lv (.int (nI N) :: st) h := by
  obtain ⟨G, ⟨p, l, e, R, s, m, args, below, meth, c⟩, ⟨nL', cells, slots⟩, Q, L⟩ := Z
  obtain ⟨a1, a2, a3, a4, a5, a6⟩ := A
  intro H locs ls hR hS hl
  refine W_sz fun hsz => ?_
  have hH : H.size = N0 + ce := al_sz hR hS a1 hf (by omega)
  have wa : Cond.arrayClass .long ∈ gtbl := wG 317 (by decide +kernel) (by decide +kernel)
  refine va_newaK (atype := .long) X.1 X.2.1 (X.2.2.2.2.2.1 _ wa) rfl d rfl (nI_nneg (by omega)) (nI_clamp (by omega)) (by show N * 8 ≤ 536870912; omega) (by omega) (by omega) hH fun H1 cA e1 z1 o1 hAr hNm => ?_
  have hK := (X.2.2.2.2.2.2.1.1.2 1 _ rfl).2
  have hc0 : cA = G.2.1 1 := Option.some.inj (hNm.symm.trans hK)
  subst hc0
  have hk : ∀ (k : Nat) (x : Nat × va_E), (va_pl L (m_f G.2.1 h))[k]? = some x → H1[x.1]? = H[x.1]? := fun k x hx => o1 x.1 (by have := (hR.2.1 k x hx).lt; omega)
  subst a1 a4
  refine k H1 locs ls (hR.push hH ((hR.2.1.kept hk).app (fun k x hx => ?_)) (hR.2.2.push hR.2.1 hH.symm (by show G.2.2 ≤ _; omega))) ⟨by omega, fun x q1 q2 => (o1 x (by have := hS.1; omega)).trans (hS.2.1 x q1 q2), hS.2.2⟩ hl
  have hz : k < 1 := (List.getElem?_eq_some_iff.mp hx).1
  rw [show k = 0 by omega] at hx
  cases hx
  exact e1
theorem r_newz (X : mCx Z own cc nL n) (A : mAl Z N0 mc ms ce sl) {N : Nat} (hN : N < 1000000) (hf : ce = 0 ∨ ∃ e, h (N0 + ce - 1) = some e) (h1 : ce + 1 ≤ mc) (h2 : sl + N ≤ ms) (d : decode cc pc = .ok (.newarray .boolean, 2)) (k : SW (zG1 Z N) (pc + 2) lv (.ref (N0 + ce) :: st) (va_up h (N0 + ce) (some (.inl (2, N, .inl (fun _ => 0)))))) : SW Z pc lv (.int (nI N) :: st) h := by
  obtain ⟨G, ⟨p, l, e, R, s, m, args, below, meth, c⟩, ⟨nL', cells, slots⟩, Q, L⟩ := Z
  obtain ⟨a1, a2, a3, a4, a5, a6⟩ := A
  intro H locs ls hR hS hl
  refine W_sz fun hsz => ?_
  have hH : H.size = N0 + ce := al_sz hR hS a1 hf (by omega)
  have wa : Cond.arrayClass .boolean ∈ gtbl := wG 1089 (by decide +kernel) (by decide +kernel)
  refine va_newaK (atype := .boolean) X.1 X.2.1 (X.2.2.2.2.2.1 _ wa) rfl d rfl (nI_nneg (by omega)) (nI_clamp (by omega)) (by show N * 1 ≤ 536870912; omega) (by omega) (by omega) hH fun H1 cA e1 z1 o1 hAr hNm => ?_
  have hK := (X.2.2.2.2.2.2.1.1.2 2 _ rfl).2
  have hc0 : cA = G.2.1 2 := Option.some.inj (hNm.symm.trans hK)
  subst hc0
  have hk : ∀ (k : Nat) (x : Nat × va_E), (va_pl L (m_f G.2.1 h))[k]? = some x → H1[x.1]? = H[x.1]? := fun k x hx => o1 x.1 (by have := (hR.2.1 k x hx).lt; omega)
  subst a1 a4
  refine k H1 locs ls (hR.push hH ((hR.2.1.kept hk).app (fun k x hx => ?_)) (hR.2.2.push hR.2.1 hH.symm (by show G.2.2 ≤ _; omega))) ⟨by omega, fun x q1 q2 => (o1 x (by have := hS.1; omega)).trans (hS.2.1 x q1 q2), hS.2.2⟩ hl
  have hz : k < 1 := (List.getElem?_eq_some_iff.mp hx).1
  rw [show k = 0 by omega] at hx
  cases hx
  exact e1
theorem r_newo (X : mCx Z own cc nL n) (A : mAl Z N0 mc ms ce sl) {C : String} {T : u_T} {N ci ix : Nat} {fs : List Value} (ty : Nat → FieldType) (hty : ∀ k, k < N → parseFieldDescriptor (T k).2.2.1 = some (ty k)) (hc : vwCl[ci]? = some (C, T, N)) (hin : ∀ w ∈ u_ws C T N, w ∈ gtbl) (wl : Cond.classLink own ix C ∈ gtbl) (wi : Cond.instantiable C N ∈ gtbl) (wn : Cond.initialized C ∈ gtbl) (hfs : ∀ j, j < N → defaultValue (ty j) = vp_V fs j) (hf : ce = 0 ∨ ∃ e, h (N0 + ce - 1) = some e) (h1 : ce + 1 ≤ mc) (h2 : sl + N ≤ ms) (d : decode cc pc = .ok (.new ix, 3)) (k : SW (zG1 Z N) (pc + 3) lv (.ref (N0 + ce) :: st) (va_up h (N0 + ce) (some (.inr (ci, fs))))) : SW Z pc lv st h := by
  obtain ⟨G, ⟨p, l, e, R, s, m, args, below, meth, c⟩, ⟨nL', cells, slots⟩, Q, L⟩ := Z
  obtain ⟨a1, a2, a3, a4, a5, a6⟩ := A
  obtain ⟨x1, x2, x3, x4, x5, hts, hI, x8, x9, x10, x11⟩ := X
  intro H locs ls hR hS hl
  refine W_sz fun hsz => ?_
  have hH : H.size = N0 + ce := al_sz hR hS a1 hf (by omega)
  have hKn := hI.1.1 ci _ hc
  refine W.newcK x1 x2 x5 (hts _ wl) (hts _ wi) (hts _ wn) rfl d (by omega) (by omega) hKn.2.1 hH fun H1 kC hkC e1 z1 o1 => ?_
  have hk : ∀ (k : Nat) (x : Nat × va_E), (va_pl L (m_f G.2.1 h))[k]? = some x → H1[x.1]? = H[x.1]? := fun k x hx => o1 x.1 (by have := (hR.2.1 k x hx).lt; omega)
  subst a1 a4
  refine k H1 locs ls (hR.push hH ((hR.2.1.kept hk).app (fun k x hx => ?_)) (hR.2.2.push hR.2.1 hH.symm (by show G.2.2 ≤ _; omega))) ⟨by omega, fun x q1 q2 => (o1 x (by have := hS.1; omega)).trans (hS.2.1 x q1 q2), hS.2.2⟩ hl
  have hz : k < 1 := (List.getElem?_eq_some_iff.mp hx).1
  rw [show k = 0 by omega] at hx
  cases hx
  exact ⟨_, hc, (u_born ty hts hin hKn hkC e1 hty).to hfs⟩
end NEWS
def rmC (n mc ms : Nat) : Room := { frames := n, cells := mc, slots := ms, locals := 41 * n }
def aN (N0 k : Nat) : List Nat := (List.range k).map (fun i => N0 + i)
theorem aN_s (N0 k : Nat) : aN N0 (k + 1) = aN N0 k ++ [N0 + k] := by
  unfold aN
  rw [List.range_succ, List.map_append]
  rfl
def mO (U : State) : Prop := va_AO "UnitHours$Day" U ∧ mAA U
theorem mO.moved {u U : State} (hvm : u.vm.Alike U.vm) (h : mO u) : mO U := ⟨va_AO.moved hvm h.1, mAA.moved hvm h.2⟩
def mCo (Z : mZ) : Prop := match Z with
  | (_, (_, _, _, _, s, _, _, _, _, _), _, _, _) => mO s
theorem mCo.g1 {Z : mZ} {k : Nat} (J : mCo Z) : mCo (zG1 Z k) := J
def mPC (G : mG) (N0 : Nat) (L : List Nat) (av : List Value) (h : mHp) : Array Value → State → Prop := va_Pc av (fun U => mR G L h U.heap ∧ mI G U ∧ U.heap.size = N0 ∧ G.2.2 ≤ N0 ∧ mO U)
def RetC (G : mG) (n mc ms N0 : Nat) (M : mM) (av : List Value) (h : mHp) (r : Option Value) (h' : mHp) : Prop := ∀ (l : Launch) (L : List Nat), Met l M.1 (mws M) (rmC n mc ms) (mPC G N0 L av h) (mQ G (L ++ aN N0 mc) r h') mc ms (fun q => G.2.2 ≤ q)
def mEndC (Z : mZ) (N0 mc ms ce : Nat) (ret : Option FieldType) (r : Option Value) (h' : mHp) : Prop := match Z with
  | (G, (_, _, _, _, s, _, args, below, meth, _), _, Q, L) => ∃ L0, L = L0 ++ aN N0 ce ∧ Q = MQ below (mQ G (L0 ++ aN N0 mc) r h') args s mc ms (fun q => G.2.2 ≤ q) ∧ meth.sig.returnType = ret ∧ meth.locks = false
theorem mEndC.g1 {Z : mZ} {N0 mc ms ce sl k : Nat} {ret : Option FieldType} {r : Option Value} {h' : mHp} (Y : mEndC Z N0 mc ms ce ret r h') (A : mAl Z N0 mc ms ce sl) : mEndC (zG1 Z k) N0 mc ms (ce + 1) ret r h' := by
  obtain ⟨G, ⟨p, l, e, R, s, m, args, below, meth, c⟩, ⟨nL', cells, slots⟩, Q, L⟩ := Z
  obtain ⟨a1, a2, a3, a4, a5, a6⟩ := A
  obtain ⟨L0, y1, y2⟩ := Y
  exact ⟨L0, by rw [aN_s, ← List.append_assoc, ← y1, a1, a4], y2⟩
theorem mEndC.fin {Z : mZ} {N0 mc ms : Nat} {ret : Option FieldType} {r : Option Value} {h' : mHp} (Y : mEndC Z N0 mc ms mc ret r h') (A : mAl Z N0 mc ms mc ms) : mEnd Z ret r h' := by
  obtain ⟨G, ⟨p, l, e, R, s, m, args, below, meth, c⟩, ⟨nL', cells, slots⟩, Q, L⟩ := Z
  obtain ⟨a1, a2, a3, a4, a5, a6⟩ := A
  obtain ⟨L0, y1, y2, y3⟩ := Y
  subst a4 a5
  exact ⟨by rw [y2, y1], y3⟩
theorem RetC.of {cc : ByteArray} {nL n mc ms N0 : Nat} {h : mHp} {G : mG} {y : MethodName} {ret : Option FieldType} {av : List Value} {r : Option Value} {h' : mHp} (lv0 : List (Nat × Value)) (hy : plainName y.cls = true) (hlen : (lg_sl av).length ≤ nL) (hlv : lv_args 0 av = lv0) (body : ∀ Z : mZ, Z.1 = G → mCx Z y.cls cc nL n → mAl Z N0 mc ms 0 0 → mEndC Z N0 mc ms 0 ret r h' → SW Z 0 lv0 [] h) : RetC G n mc ms N0 (y, cc, nL, ret) av h r h' := by
  intro l L
  refine Met.ofW (cc := cc) (maxL := nL) (ret := ret) hy rfl ?_
  intro p e s m args below meth c s₁ B hml hv
  obtain ⟨rfl, hR, hI, hN, hG, hO⟩ := hv
  have hts := atoms_spec (ws := mws (y, cc, nL, ret)) B.pre
  have hl := lv_entry av (n := nL) hlen
  rw [hlv] at hl
  rw [lg_entry_eq]
  exact body (G, (p, l, e, (headSpec (mws (y, cc, nL, ret)) (rmC n mc ms)).room, s, m, av.toArray, below, meth, c), (nL, 0, 0), _, L) rfl ⟨B.exec, B.bytes, hml, rfl, findClass_of_methodNamed B.named, fun w hw => hts w (List.mem_cons_of_mem _ hw), hI, Nat.le_refl _, Nat.le_refl _, Nat.zero_le _, Nat.zero_le _⟩ ⟨hN, rfl, rfl, rfl, rfl, hG⟩ ⟨L, (List.append_nil L).symm, rfl, B.returns, B.notSynchronized⟩ s.heap [] _ hR va_S.rf hl
