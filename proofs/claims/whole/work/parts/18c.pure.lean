def mIn (Z : mZ) : Prop := match Z with
  | (_, (_, _, _, _, _, _, _, _, meth, _), _, _, _) => meth.name = "<init>"
theorem mIn.g1 {Z : mZ} {k : Nat} (J : mIn Z) : mIn (zG1 Z k) := J
theorem RetC.ofI {cc : ByteArray} {nL n mc ms N0 : Nat} {h : mHp} {G : mG} {y : MethodName} {ret : Option FieldType} {av : List Value} {r : Option Value} {h' : mHp} (lv0 : List (Nat × Value)) (hy : plainName y.cls = true) (hi : y.name = "<init>") (hlen : (lg_sl av).length ≤ nL) (hlv : lv_args 0 av = lv0) (body : ∀ Z : mZ, Z.1 = G → mCx Z y.cls cc nL n → mAl Z N0 mc ms 0 0 → mEndC Z N0 mc ms 0 ret r h' → mIn Z → mCo Z → SW Z 0 lv0 [] h) : RetC G n mc ms N0 (y, cc, nL, ret) av h r h' := by
  intro l L
  refine Met.ofW (cc := cc) (maxL := nL) (ret := ret) hy rfl ?_
  intro p e s m args below meth c s₁ B hml hv
  obtain ⟨rfl, hR, hI, hN, hG, hO⟩ := hv
  have hts := atoms_spec (ws := mws (y, cc, nL, ret)) B.pre
  have hl := lv_entry av (n := nL) hlen
  rw [hlv] at hl
  rw [lg_entry_eq]
  exact body (G, (p, l, e, (headSpec (mws (y, cc, nL, ret)) (rmC n mc ms)).room, s, m, av.toArray, below, meth, c), (nL, 0, 0), _, L) rfl ⟨B.exec, B.bytes, hml, rfl, findClass_of_methodNamed B.named, fun w hw => hts w (List.mem_cons_of_mem _ hw), hI, Nat.le_refl _, Nat.le_refl _, Nat.zero_le _, Nat.zero_le _⟩ ⟨hN, rfl, rfl, rfl, rfl, hG⟩ ⟨L, (List.append_nil L).symm, rfl, B.returns, B.notSynchronized⟩ ((name_of_methodNamed B.named B.method).1.trans hi) hO s.heap [] _ hR va_S.rf hl
section INIR
variable {Z : mZ} {own : String} {cc : ByteArray} {nL n pc N0 mc ms ce sl : Nat} {lv : List (Nat × Value)} {st : List Value} {h : mHp}
theorem r_putF (X : mCx Z own cc nL n) (J : mIn Z) {C ref : String} {T : u_T} {N ci ix : Nat} (hin : ∀ w ∈ u_ws C T N, w ∈ gtbl) (ty0 : Nat → FieldType) (hty : ∀ k, k < N → parseFieldDescriptor (T k).2.2.1 = some (ty0 k)) (hnm : ∀ a, a < N → ∀ b, b < N → a ≠ b → (T a).2.1 ≠ (T b).2.1) (hc : vwCl[ci]? = some (C, T, N)) (k0 : Nat) (hk : k0 < N) (hw : Cond.fieldLink own ix ref (T k0).2.1 (T k0).2.2.1 ∈ gtbl) (href : (T k0).1 = ref) (hdecl : (T k0).1 = own) (hfin : (T k0).2.2.2 = true) {a : Nat} {fs : List Value} {v : Value} (hn : narrow (ty0 k0) v = v) (hfit : fits (ty0 k0) v = true) (d : decode cc pc = .ok (.putfield ix, 3)) (he : h a = some (.inr (ci, fs))) (hl0 : k0 < fs.length) (k : SW Z (pc + 3) lv st (va_up h a (some (.inr (ci, fs.set k0 v))))) : SW Z pc lv (v :: .ref a :: st) h := by
  obtain ⟨G, ⟨p, l, e, R, s, m, args, below, meth, c⟩, ⟨nL', cells, slots⟩, Q, L⟩ := Z
  intro H locs ls hR hS hl
  obtain ⟨q, hq⟩ := hR.get he
  exact va_putF X.1 X.2.1 X.2.2.2.2.2.1 hin ty0 hty hnm X.2.2.2.2.1 X.2.2.2.2.2.2.1.1 hR.2.1 hR.2.2 hS q hq hc k0 hk (X.2.2.2.2.2.1 _ hw) (fun _ h9 => by rw [← href]; exact h9) hfin J hdecl (hty k0 hk) hn hfit hl0 d (fun H1 locs1 hP hD hS1 => k H1 locs1 ls (hR.set (e := .inr (ci, fs.set k0 v)) he hq hP hD) hS1 hl)
theorem r_obj (X : mCx Z own cc nL n) {ix a : Nat} (h1 : 1 ≤ n) (wl : Cond.methodLink own ix Lib.objectInit ∈ gtbl) (wi : Cond.instanceMethod Lib.objectInit ∈ gtbl) (wc : Cond.code Lib.objectInit ⟨#[0xb1]⟩ 1 none ∈ gtbl) (hw : (st.map fun v => v.category).sum ≤ 8) (d : decode cc pc = .ok (.invokespecial ix, 3)) (k : SW Z (pc + 3) lv st h) : SW Z pc lv (.ref a :: st) h := by
  obtain ⟨G, ⟨p, l, e, R, s, m, args, below, meth, c⟩, ⟨nL', cells, slots⟩, Q, L⟩ := Z
  obtain ⟨x1, x2, x3, x4, x5, hts, hI, x8, x9, x10, x11⟩ := X
  intro H locs ls hR hS hl
  refine W.objInit x1 x2 x5 (hts _ wl) (hts _ wi) (hts _ wc) rfl (by rw [x3, ← x4]; exact hl.1) rfl d (by omega) ?_ (k H locs ls hR hS hl)
  have : (2 * (F0 m pc ls (.ref a :: st)).monitorRoom) + (st.map fun v => v.category).sum ≤ 8 := lv_room hw
  omega
end INIR
