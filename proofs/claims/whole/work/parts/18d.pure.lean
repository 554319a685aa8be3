def zGk (Z : mZ) (k j : Nat) : mZ := match Z with
  | (G, (p, l, e, R, s, m, args, below, meth, c), (nL, cells, slots), Q, L) => (G, (p, l, e, R, s, m, args, below, meth, c), (nL, cells + k, slots + j), Q, L ++ aN (s.heap.size + cells) k)
theorem aN_a (N0 a : Nat) : ∀ k, aN N0 (a + k) = aN N0 a ++ aN (N0 + a) k := by
  intro k
  induction k with
  | zero => exact (List.append_nil _).symm
  | succ k ih => rw [← Nat.add_assoc, aN_s, ih, aN_s, List.append_assoc, Nat.add_assoc]
theorem mCx.gk {Z : mZ} {own : String} {cc : ByteArray} {nL n N0 mc ms ce sl k j : Nat} (X : mCx Z own cc nL n) (A : mAl Z N0 mc ms ce sl) (h1 : ce + k ≤ mc) (h2 : sl + j ≤ ms) : mCx (zGk Z k j) own cc nL n := by
  obtain ⟨G, ⟨p, l, e, R, s, m, args, below, meth, c⟩, ⟨nL', cells, slots⟩, Q, L⟩ := Z
  obtain ⟨a1, a2, a3, a4, a5, a6⟩ := A
  obtain ⟨x1, x2, x3, x4, x5, x6, x7, x8, x9, x10, x11⟩ := X
  exact ⟨x1, x2, x3, x4, x5, x6, x7, x8, x9, by omega, by omega⟩
theorem mAl.gk {Z : mZ} {N0 mc ms ce sl k j : Nat} (A : mAl Z N0 mc ms ce sl) : mAl (zGk Z k j) N0 mc ms (ce + k) (sl + j) := by
  obtain ⟨G, ⟨p, l, e, R, s, m, args, below, meth, c⟩, ⟨nL', cells, slots⟩, Q, L⟩ := Z
  obtain ⟨a1, a2, a3, a4, a5, a6⟩ := A
  exact ⟨a1, a2, a3, by omega, by omega, a6⟩
theorem mCo.gk {Z : mZ} {k j : Nat} (J : mCo Z) : mCo (zGk Z k j) := J
theorem mIn.gk {Z : mZ} {k j : Nat} (J : mIn Z) : mIn (zGk Z k j) := J
theorem mEndC.gk {Z : mZ} {N0 mc ms ce sl k j : Nat} {ret : Option FieldType} {r : Option Value} {h' : mHp} (Y : mEndC Z N0 mc ms ce ret r h') (A : mAl Z N0 mc ms ce sl) : mEndC (zGk Z k j) N0 mc ms (ce + k) ret r h' := by
  obtain ⟨G, ⟨p, l, e, R, s, m, args, below, meth, c⟩, ⟨nL', cells, slots⟩, Q, L⟩ := Z
  obtain ⟨a1, a2, a3, a4, a5, a6⟩ := A
  obtain ⟨L0, y1, y2⟩ := Y
  exact ⟨L0, by rw [aN_a, ← List.append_assoc, ← y1, a1, a4], y2⟩
theorem mPC.blind {G : mG} {N0 : Nat} {L : List Nat} {av : List Value} {h : mHp} : FrameBlind (mPC G N0 L av h) := fun a U g mk q => ⟨q.1, q.2.1, mI.calling (V := U.calling g mk a) q.2.2.1 rfl, q.2.2.2.1, q.2.2.2.2.1, mO.moved (Vm.Alike.refl U.vm) q.2.2.2.2.2⟩
section INVC
variable {Z : mZ} {own : String} {cc : ByteArray} {nL n pc N0 mc ms ce sl : Nat} {lv : List (Nat × Value)} {st st0 : List Value} {h : mHp}
theorem m_ofRunC {p : Program} {l : Launch} {e : Env} {R : Room} {s : State} {m : MethodId} {args : Array Value} {below : List Frame} {meth : Method} {c : Code} {cells slots kc ks : Nat} {Q : State → Prop} {G : mG} {L : List Nat} {H : Heap} {locs : List Loc} {ls : Array Slot} {r : Option Value} {h' : mHp} {a : Array Value} {nL' : Nat}
    (run : va_Run p l e R s m args below meth c H locs cells slots kc ks (F0 m pc ls st0) st (mQ G (L ++ aN (s.heap.size + cells) kc) r h' a) (fun q => G.2.2 ≤ q)) (hS : va_S (fun q => G.2.2 ≤ q) s.heap H locs) (hl : lv_has ls nL' lv) (k : SW (zGk (G, (p, l, e, R, s, m, args, below, meth, c), (nL', cells, slots), Q, L) kc ks) (pc + 3) lv (r.toList ++ st) h') : W p l e R s m args below meth c H locs cells slots Q (F0 m pc ls st0) := by
  intro T hT X
  obtain ⟨v, st₀, t, T', Lc, h0, X', hL, e1, e2, ⟨⟨hv, hR'⟩, hz, hk⟩, stp⟩ := run T hT X
  cases hv
  rw [h0] at hz hk
  obtain ⟨t2, a1, b1⟩ := k T'.heap (locs ++ Lc) ls (by rw [e1]; exact hR') ⟨Nat.le_trans hS.1 (by rw [e1]; exact hz), fun q h1 h2 => by rw [e1, hk q (Nat.lt_of_lt_of_le h1 hS.1) h2]; exact hS.2.1 q h1 h2, fun q hq => by
      rcases List.mem_append.mp hq with h | h
      · exact hS.2.2 q h
      · exact hL q h⟩ hl T' rfl X'
  exact ⟨t2, stp t2 a1, b1⟩
theorem r_invI (X : mCx Z own cc nL n) (A : mAl Z N0 mc ms ce sl) (O : mCo Z) {ix k0 a kc ks maxL : Nat} {y : MethodName} {bytes : ByteArray} {h' : mHp} {As : List Value} (wl : Cond.methodLink own ix y ∈ gtbl) (wi : Cond.instanceMethod y ∈ gtbl) (wini : Cond.initialized y.cls ∈ gtbl) (wc : Cond.code y bytes maxL none ∈ gtbl) (hy : y.name = "<init>") (hd : y.cls ≠ "java/lang/invoke/MethodHandle" ∧ y.cls ≠ "java/lang/invoke/VarHandle" ∧ (parseMethodDescriptor y.desc).map (fun d => d.parameters.length) = some As.length) (hlev : k0 + 1 ≤ n) (hml : maxL ≤ 22) (d : decode cc pc = .ok (.invokespecial ix, 3)) (hst : st0 = As.reverse ++ .ref a :: st) (hw : (st.map fun v => v.category).sum ≤ 8) (hf : ce = 0 ∨ ∃ e, h (N0 + ce - 1) = some e) (h1 : ce + kc ≤ mc) (h2 : sl + ks ≤ ms) (hM : RetC Z.1 k0 kc ks (N0 + ce) (y, bytes, maxL, none) (.ref a :: As) h none h') (k : SW (zGk Z kc ks) (pc + 3) lv st h') : SW Z pc lv st0 h := by
  obtain ⟨G, ⟨p, l, e, R, s, m, args, below, meth, c⟩, ⟨nL', cells, slots⟩, Q, L⟩ := Z
  obtain ⟨a1, a2, a3, a4, a5, a6⟩ := A
  obtain ⟨x1, x2, x3, x4, x5, hts, hI, x8, x9, x10, x11⟩ := X
  intro H locs ls hR hS hl
  refine W_sz fun hsz => ?_
  have hH : H.size = N0 + ce := al_sz hR hS a1 hf (by omega)
  subst hst
  subst a1 a4
  exact m_ofRunC (a := (Value.ref a :: As).toArray) (va_runI (As := As) (rest := st) ⟨x1, x2, x3, x5, hts⟩ (hM l L) (cwI As.length hts (gtbl_goodIn (mws_in wc)) rfl rfl rfl (hts _ wini) (hts _ wl) (hts _ wi) hy hd ⟨Nat.le_trans (show k0 + 1 ≤ n from hlev) x8, Nat.le_trans (show 8 + (maxL + 11) + 41 * k0 ≤ 41 * n by omega) x9⟩) ⟨mPC.blind, fun U hU hW => ⟨rfl, by rw [hU]; exact hR, hI.warm hW, by rw [hU]; exact hH, Nat.le_trans a6 (Nat.le_add_right _ _), mO.moved hW.alike O⟩⟩ rfl rfl (by rw [← x4]; exact hl.1) rfl (lv_room hw) d ⟨by omega, by omega⟩) hS hl k
theorem r_invIN (X : mCx Z own cc nL n) (A : mAl Z N0 mc ms ce sl) (O : mCo Z) {ix k0 a kc ks maxL : Nat} {y : MethodName} {bytes : ByteArray} {h' : mHp} {As : List Value} {host : String} (wl : Cond.methodLinkNest own ix y host ∈ ntbl) (wi : Cond.instanceMethod y ∈ gtbl) (wini : Cond.initialized y.cls ∈ gtbl) (wc : Cond.code y bytes maxL none ∈ gtbl) (hy : y.name = "<init>") (hd : y.cls ≠ "java/lang/invoke/MethodHandle" ∧ y.cls ≠ "java/lang/invoke/VarHandle" ∧ (parseMethodDescriptor y.desc).map (fun d => d.parameters.length) = some As.length) (hlev : k0 + 1 ≤ n) (hml : maxL ≤ 22) (d : decode cc pc = .ok (.invokespecial ix, 3)) (hst : st0 = As.reverse ++ .ref a :: st) (hw : (st.map fun v => v.category).sum ≤ 8) (hf : ce = 0 ∨ ∃ e, h (N0 + ce - 1) = some e) (h1 : ce + kc ≤ mc) (h2 : sl + ks ≤ ms) (hM : RetC Z.1 k0 kc ks (N0 + ce) (y, bytes, maxL, none) (.ref a :: As) h none h') (k : SW (zGk Z kc ks) (pc + 3) lv st h') : SW Z pc lv st0 h := by
  obtain ⟨G, ⟨p, l, e, R, s, m, args, below, meth, c⟩, ⟨nL', cells, slots⟩, Q, L⟩ := Z
  obtain ⟨a1, a2, a3, a4, a5, a6⟩ := A
  obtain ⟨x1, x2, x3, x4, x5, hts, hI, x8, x9, x10, x11⟩ := X
  intro H locs ls hR hS hl
  refine W_sz fun hsz => ?_
  have hH : H.size = N0 + ce := al_sz hR hS a1 hf (by omega)
  subst hst
  subst a1 a4
  exact m_ofRunC (a := (Value.ref a :: As).toArray) (va_runIN (As := As) (rest := st) ⟨x1, x2, x3, x5, hts⟩ (hM l L) ⟨va_cnB As.length hts (gtbl_goodIn (mws_in wc)) rfl rfl rfl (hI.2 _ wl) (hts _ wini) hd ⟨Nat.le_trans (show k0 + 1 ≤ n from hlev) x8, Nat.le_trans (show 8 + (maxL + 11) + 41 * k0 ≤ 41 * n by omega) x9⟩, hy, hts _ wi⟩ ⟨mPC.blind, fun U hU hW => ⟨rfl, by rw [hU]; exact hR, hI.warm hW, by rw [hU]; exact hH, Nat.le_trans a6 (Nat.le_add_right _ _), mO.moved hW.alike O⟩⟩ rfl rfl (by rw [← x4]; exact hl.1) rfl (lv_room hw) d ⟨by omega, by omega⟩) hS hl k
end INVC
