/-! Calls over function heaps -/
theorem gtbl_goodIn {ws : List Cond} (h : ∀ w ∈ ws, w ∈ gtbl) : GoodIn gtbl ws := fun w hw => ⟨h w hw, good_of_word (List.mem_filter.mp (h w hw)).2⟩
theorem mws_in {M : mM} (h : Cond.code M.1 M.2.1 M.2.2.1 M.2.2.2 ∈ gtbl) : ∀ w ∈ mws M, w ∈ gtbl := fun w hw => (List.mem_cons.mp hw).elim (fun e => e ▸ h) id
section MCALLS
variable {Z : mZ} {own : String} {cc : ByteArray} {nL n pc : Nat} {lv lv' : List (Nat × Value)} {st st0 : List Value} {h : mHp}
theorem m_ofRun {p : Program} {l : Launch} {e : Env} {R : Room} {s : State} {m : MethodId} {args : Array Value} {below : List Frame} {meth : Method} {c : Code} {cells slots : Nat} {Q : State → Prop} {G : mG} {L : List Nat} {H : Heap} {locs : List Loc} {ls : Array Slot} {r : Option Value} {h' : mHp} {a : Array Value} {nL' : Nat}
    (run : va_Run p l e R s m args below meth c H locs cells slots 0 0 (F0 m pc ls st0) st (mQ G L r h' a) (fun q => G.2.2 ≤ q)) (hS : va_S (fun q => G.2.2 ≤ q) s.heap H locs) (hl : lv_has ls nL' lv) (k : SW (G, (p, l, e, R, s, m, args, below, meth, c), (nL', cells, slots), Q, L) (pc + 3) lv (r.toList ++ st) h') : W p l e R s m args below meth c H locs cells slots Q (F0 m pc ls st0) := by
  intro T hT X
  obtain ⟨v, st₀, t, T', Lc, h0, X', hL, e1, e2, ⟨⟨hv, hR'⟩, hz, hk⟩, stp⟩ := run T hT X
  cases hv
  rw [h0] at hz hk
  obtain ⟨t2, a1, b1⟩ := k T'.heap (locs ++ Lc) ls (by rw [e1]; exact hR') ⟨Nat.le_trans hS.1 (by rw [e1]; exact hz), fun q h1 h2 => by rw [e1, hk q (Nat.lt_of_lt_of_le h1 hS.1) h2]; exact hS.2.1 q h1 h2, fun q hq => by
      rcases List.mem_append.mp hq with h | h
      · exact hS.2.2 q h
      · exact hL q h⟩ hl T' rfl X'
  exact ⟨t2, stp t2 a1, b1⟩
theorem r_invV (X : mCx Z own cc nL n) {C : String} {T : u_T} {N ix k0 ci a : Nat} {M : mM} {r : Option Value} {h' : mHp} {As fs : List Value} (wl : Cond.methodLink own ix M.1 ∈ gtbl) (wi : Cond.instanceMethod M.1 ∈ gtbl) (wsl : Cond.selects C M.1 M.1 ∈ gtbl) (wini : Cond.initialized C ∈ gtbl) (wc : Cond.code M.1 M.2.1 M.2.2.1 M.2.2.2 ∈ gtbl) (hd : M.1.cls = C ∧ M.1.cls ≠ "java/lang/invoke/MethodHandle" ∧ M.1.cls ≠ "java/lang/invoke/VarHandle" ∧ (parseMethodDescriptor M.1.desc).map (fun d => d.parameters.length) = some As.length) (hc : vwCl[ci]? = some (C, T, N)) (hlev : k0 + 1 ≤ n) (hml : M.2.2.1 ≤ 22) (d : decode cc pc = .ok (.invokevirtual ix, 3)) (hst : st0 = As.reverse ++ .ref a :: st) (hw : (st.map fun v => v.category).sum ≤ 8) (he : h a = some (.inr (ci, fs))) (hM : Ret Z.1 k0 M (.ref a :: As) h r h') (k : SW Z (pc + 3) lv (r.toList ++ st) h') : SW Z pc lv st0 h := by
  obtain ⟨G, ⟨p, l, e, R, s, m, args, below, meth, c⟩, ⟨nL', cells, slots⟩, Q, L⟩ := Z
  intro H locs ls hR hS hl
  obtain ⟨hx, hb, hm1, hm2, hown, hts, hI, hfr, hlo, hce, hsl⟩ := X
  obtain ⟨q, hq⟩ := hR.get he
  subst hst
  have hG : GoodIn gtbl (wsV own ix C M.1 (mws M)) := gtbl_goodIn (fun w hw => by
    rcases List.mem_append.mp hw with h1 | h1
    · simp only [List.mem_cons, List.not_mem_nil, or_false] at h1
      rcases h1 with rfl | rfl | rfl | rfl
      · exact wl
      · exact wi
      · exact wsl
      · exact wini
    · exact mws_in wc w h1)
  exact m_ofRun (a := (Value.ref a :: As).toArray) (va_runV (As := As) (rest := st) ⟨hx, hb, hm1, hown, hts⟩ (hM l L) (cwV As.length hts hG rfl rfl rfl hd ⟨Nat.le_trans (show k0 + 1 ≤ n from hlev) hfr, Nat.le_trans (show 8 + (M.2.2.1 + 11) + 41 * k0 ≤ 41 * n by omega) hlo⟩) ⟨mP.blind, va_recv hI.1 hR.2.1 hc hq, fun U hU hW => ⟨rfl, by rw [hU]; exact hR, hI.warm hW⟩⟩ rfl rfl (by rw [← hm2]; exact hl.1) rfl (lv_room hw) d ⟨by omega, by omega⟩) hS hl k
theorem r_invS (X : mCx Z own cc nL n) {ix k0 : Nat} {M : mM} {r : Option Value} {h' : mHp} {As : List Value} (wl : Cond.methodLink own ix M.1 ∈ gtbl) (wi : Cond.static M.1 ∈ gtbl) (wini : Cond.initialized M.1.cls ∈ gtbl) (wc : Cond.code M.1 M.2.1 M.2.2.1 M.2.2.2 ∈ gtbl) (hd : M.1.cls ≠ "java/lang/invoke/MethodHandle" ∧ M.1.cls ≠ "java/lang/invoke/VarHandle" ∧ (parseMethodDescriptor M.1.desc).map (fun d => d.parameters.length) = some As.length) (hlev : k0 + 1 ≤ n) (hml : M.2.2.1 ≤ 22) (d : decode cc pc = .ok (.invokestatic ix, 3)) (hst : st0 = As.reverse ++ st) (hw : (st.map fun v => v.category).sum ≤ 8) (hM : Ret Z.1 k0 M As h r h') (k : SW Z (pc + 3) lv (r.toList ++ st) h') : SW Z pc lv st0 h := by
  obtain ⟨G, ⟨p, l, e, R, s, m, args, below, meth, c⟩, ⟨nL', cells, slots⟩, Q, L⟩ := Z
  intro H locs ls hR hS hl
  obtain ⟨hx, hb, hm1, hm2, hown, hts, hI, hfr, hlo, hce, hsl⟩ := X
  subst hst
  exact m_ofRun (a := As.toArray) (va_runS (As := As) (rest := st) ⟨hx, hb, hm1, hown, hts⟩ (hM l L) ⟨callB_of As.length hts (gtbl_goodIn (mws_in wc)) rfl rfl rfl (hts _ wini) (hts _ wl) hd ⟨Nat.le_trans (show k0 + 1 ≤ n from hlev) hfr, Nat.le_trans (show 8 + (M.2.2.1 + 11) + 41 * k0 ≤ 41 * n by omega) hlo⟩, hts _ wi⟩ ⟨mP.blind, fun U hU hW => ⟨rfl, by rw [hU]; exact hR, hI.warm hW⟩⟩ rfl rfl (by rw [← hm2]; exact hl.1) rfl (lv_room hw) d ⟨by omega, by omega⟩) hS hl k
theorem r_invSN (X : mCx Z own cc nL n) {host : String} {ix k0 : Nat} {M : mM} {r : Option Value} {h' : mHp} {As : List Value} (wl : Cond.methodLinkNest own ix M.1 host ∈ ntbl) (wi : Cond.static M.1 ∈ gtbl) (wini : Cond.initialized M.1.cls ∈ gtbl) (wc : Cond.code M.1 M.2.1 M.2.2.1 M.2.2.2 ∈ gtbl) (hd : M.1.cls ≠ "java/lang/invoke/MethodHandle" ∧ M.1.cls ≠ "java/lang/invoke/VarHandle" ∧ (parseMethodDescriptor M.1.desc).map (fun d => d.parameters.length) = some As.length) (hlev : k0 + 1 ≤ n) (hml : M.2.2.1 ≤ 22) (d : decode cc pc = .ok (.invokestatic ix, 3)) (hst : st0 = As.reverse ++ st) (hw : (st.map fun v => v.category).sum ≤ 8) (hM : Ret Z.1 k0 M As h r h') (k : SW Z (pc + 3) lv (r.toList ++ st) h') : SW Z pc lv st0 h := by
  obtain ⟨G, ⟨p, l, e, R, s, m, args, below, meth, c⟩, ⟨nL', cells, slots⟩, Q, L⟩ := Z
  intro H locs ls hR hS hl
  obtain ⟨hx, hb, hm1, hm2, hown, hts, hI, hfr, hlo, hce, hsl⟩ := X
  subst hst
  exact m_ofRun (a := As.toArray) (va_runSN (As := As) (rest := st) ⟨hx, hb, hm1, hown, hts⟩ (hM l L) ⟨va_cnB As.length hts (gtbl_goodIn (mws_in wc)) rfl rfl rfl (hI.2 _ wl) (hts _ wini) hd ⟨Nat.le_trans (show k0 + 1 ≤ n from hlev) hfr, Nat.le_trans (show 8 + (M.2.2.1 + 11) + 41 * k0 ≤ 41 * n by omega) hlo⟩, hts _ wi, trivial⟩ ⟨mP.blind, fun U hU hW => ⟨rfl, by rw [hU]; exact hR, hI.warm hW⟩⟩ rfl rfl (by rw [← hm2]; exact hl.1) rfl (lv_room hw) d ⟨by omega, by omega⟩) hS hl k
theorem r_arrcopy (X : mCx Z own cc nL n) {ix a0 a1 N0 N1 : Nat} {f g : Nat → Int32} {sp dp nn : Int32} (wl : Cond.methodLink own ix arraycopyName ∈ gtbl) (wn : Cond.native arraycopyName ∈ gtbl) (wi : Cond.static arraycopyName ∈ gtbl) (wini : Cond.initialized "java/lang/System" ∈ gtbl) (hn1 : 1 ≤ n) (d : decode cc pc = .ok (.invokestatic ix, 3)) (hw : (st.map fun v => v.category).sum ≤ 8) (he0 : h a0 = some (.inl (0, N0, .inl f))) (he1 : h a1 = some (.inl (0, N1, .inl g))) (h1 : ¬ sp < 0) (h2 : ¬ dp < 0) (h3 : ¬ nn < 0) (h4 : sp.toNatClampNeg + nn.toNatClampNeg ≤ N0) (h5 : dp.toNatClampNeg + nn.toNatClampNeg ≤ N1) (k : SW Z (pc + 3) lv st (va_up h a1 (some (.inl (0, N1, .inl (va_cpy f g sp.toNatClampNeg dp.toNatClampNeg nn.toNatClampNeg)))))) : SW Z pc lv (.int nn :: .int dp :: .ref a1 :: .int sp :: .ref a0 :: st) h := by
  obtain ⟨G, ⟨p, l, e, R, s, m, args, below, meth, c⟩, ⟨nL', cells, slots⟩, Q, L⟩ := Z
  intro H locs ls hR hS hl
  obtain ⟨hx, hb, hm1, hm2, hown, hts, hI, hfr, hlo, hce, hsl⟩ := X
  obtain ⟨q0, hq0⟩ := hR.get he0
  obtain ⟨q1, hq1⟩ := hR.get he1
  have hnw : nativeFrameWords "java/lang/System" "arraycopy" 5 ≤ 20 := by decide +kernel
  exact va_copyi hx hb (by rw [hm1, ← hm2]; exact hl.1.symm) hown (hts _ wl) (hts _ wn) (hts _ wi) (hts _ wini) hI.1 hR.2.1 hR.2.2 hS q0 q1 0 0 hq0 hq1 rfl rfl rfl h1 h2 h3 h4 h5 (fun i _ => rfl) (Nat.le_trans hn1 hfr) (Nat.le_trans (by omega) hlo) d (fun H1 locs1 hP hD hS1 => k H1 locs1 ls (hR.set (e := .inl (0, N1, .inl (va_cpy f g sp.toNatClampNeg dp.toNatClampNeg nn.toNatClampNeg))) he1 hq1 hP hD) hS1 hl)
end MCALLS
