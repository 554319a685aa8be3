def R_law : String := "UnitHoursLaw"
def lw_P (b : Addr) (xs : List Int32) (args : Array Value) (s : State) : Prop := args = #[.ref b] ∧ s.IntsAt b xs ∧ xs.length ≤ 3072 ∧ (Jvm.Cond.and given_1 narrow_1).before args s = true
def lw_Q (_ : Array Value) (s : State) (o : Outcome) (t : State) : Prop := o = .returned (some (.int 1)) ∧ Framed s o t [] 600000 7302250
def lw_Z (below : List Frame) (a : Array Value) (s : State) : State → Prop := fun t => ∃ o, t.status = .running ∧ Ended t below o ∧ lw_Q a s o t
theorem lw_ret {p : Program} {l : Launch} {e : Env} {s : State} {m : MethodId} {below : List Frame} {meth : Method} {c : Code} {b : Nat} (hx : p.tables.exec = Jvm.exec) (hb : c.code = code) (hr : meth.sig.returnType = ret) (hlocks : meth.locks = false) {pc : Nat} {H : Heap} {ls : Array Slot} (hdg : decode code pc = .ok (.ireturn, 1)) : W p l e room_1 s m #[Value.ref b] below meth c H [] 600000 7302250 (lw_Z below #[Value.ref b] s) (F0 m pc ls [.int 1]) := by
  intro T hT X
  obtain ⟨fs, hret, hrun, hended, hW, hframe⟩ := X.leave (v := some (.int 1)) (hlocks := hlocks) (fun h => by rw [hr] at h; cases h)
  have hmeth' : T.vm.method? m = some meth := X.method'
  refine ⟨T.setFrames fs, ?_, .returned (some (.int 1)), hrun, hended, rfl, ⟨_, rfl⟩, hW, hframe⟩
  jvm_step X.here [X.here.top, hx, hb, hdg, hmeth', hr, ret, narrow_b1]
  (try refine ⟨rfl, ?_⟩); (try refine ⟨rfl, ?_⟩)
  first | (intro acts; rw [hret _ acts rfl rfl rfl]) | rw [hret _ _ rfl rfl rfl]
  exact Steps.refl _
def lw_At (p : Program) (s : State) (m : MethodId) (meth : Method) (c : Code) (b L : Nat) (xs : Nat → Int32) : Prop :=
  p.tables.exec = Jvm.exec ∧ c.code = code ∧ meth.sig.returnType = ret ∧ c.maxLocals = 4 ∧ s.vm.findClass R_law = some m.cls ∧ (∀ w ∈ lw_tbl, w.before #[Value.ref b] s = true) ∧ va_X b L xs s s.heap ∧ b < s.heap.size ∧ meth.locks = false ∧ (Jvm.Cond.and given_1 narrow_1).before #[Value.ref b] s = true
def mSc (Z : mZ) (b L : Nat) (xs : Nat → Int32) : Prop := match Z with
  | (G, (_, _, _, _, s, _, _, _, _, _), _, _, _) => va_X b L xs s s.heap ∧ b < s.heap.size ∧ ¬ G.2.2 ≤ b
def mLw (Z : mZ) (b : Nat) : Prop := match Z with
  | (G, (_, _, _, R, s, _, args, below, meth, _), _, Q, _) => R = room_1 ∧ args = #[Value.ref b] ∧ Q = lw_Z below #[Value.ref b] s ∧ meth.sig.returnType = ret ∧ meth.locks = false ∧ G.2.2 = s.heap.size
section LWR
variable {Z : mZ} {own : String} {cc : ByteArray} {nL n pc t b L : Nat} {xs : Nat → Int32} {lv : List (Nat × Value)} {st st0 : List Value} {h : mHp}
theorem mSc.g1 {k : Nat} (J : mSc Z b L xs) : mSc (zG1 Z k) b L xs := J
theorem mSc.gk {k j : Nat} (J : mSc Z b L xs) : mSc (zGk Z k j) b L xs := J
theorem mLw.g1 {k : Nat} (J : mLw Z b) : mLw (zG1 Z k) b := J
theorem mLw.gk {k j : Nat} (J : mLw Z b) : mLw (zGk Z k j) b := J
theorem mCt.g1 {k : Nat} (J : mCt Z t) : mCt (zG1 Z k) t := J
theorem mCt.gk {k j : Nat} (J : mCt Z t) : mCt (zGk Z k j) t := J
theorem r_slen (X : mCx Z own cc nL n) (S : mSc Z b L xs) (d : decode cc pc = .ok (.arraylength, 1)) (k : SW Z (pc + 1) lv (.int (nI L) :: st) h) : SW Z pc lv (.ref b :: st) h := by
  obtain ⟨G, ⟨p, l, e, R, s, m, args, below, meth, c⟩, ⟨nL', cells, slots⟩, Q, L'⟩ := Z
  exact fun H locs ls hR hS hv => va_slen X.1 X.2.1 S.1 S.2.1 S.2.2 hS d (k H locs ls hR hS hv)
theorem r_scr (X : mCx Z own cc nL n) (S : mSc Z b L xs) {i : Nat} (hi : i < L) (hL : L ≤ 3072) (d : decode cc pc = .ok (.iaload, 1)) (k : SW Z (pc + 1) lv (.int (xs i) :: st) h) : SW Z pc lv (.int (nI i) :: .ref b :: st) h := by
  obtain ⟨G, ⟨p, l, e, R, s, m, args, below, meth, c⟩, ⟨nL', cells, slots⟩, Q, L'⟩ := Z
  exact fun H locs ls hR hS hv => va_sld X.1 X.2.1 S.1 S.2.1 S.2.2 hS (vp_in_nI hi (by omega)) d (by rw [nI_clamp (by omega)]; exact k H locs ls hR hS hv)
theorem r_lwend (X : mCx Z RL cL_law 4 n) (E : mLw Z b) (d : decode cL_law pc = .ok (.ireturn, 1)) : SW Z pc lv [.int 1] h := by
  obtain ⟨G, ⟨p, l, e, R, s, m, args, below, meth, c⟩, ⟨nL', cells, slots⟩, Q, L'⟩ := Z
  obtain ⟨rfl, rfl, rfl, e4, e5, e6⟩ := E
  obtain ⟨x1, x2, x3, x4, x5, hts, hI, x8, x9, x10, x11⟩ := X
  intro H locs ls hR hS hl
  refine va_forget (fun q hq => by rw [← e6]; exact hS.2.2 q hq) ?_
  exact W.widen x10 x11 (lw_ret x1 x2 e4 e5 d)
theorem mPt.blind {G : mG} {L0 : List Nat} {av : List Value} : FrameBlind (mPt G t L0 av h) := fun a U g mk q => ⟨q.1, q.2.1, mI.calling (V := U.calling g mk a) q.2.2.1 rfl, va_Z.moved (U := U.calling g mk a) (Vm.Alike.refl U.vm) q.2.2.2.1, va_T.moved (U := U.calling g mk a) (Vm.Alike.refl U.vm) q.2.2.2.2⟩
theorem r_invT (X : mCx Z own cc nL n) (T9 : mCt Z t) {C : String} {T : u_T} {N ix k0 ci a : Nat} {M : mM} {r : Option Value} {h' : mHp} {As fs : List Value} (wl : Cond.methodLink own ix M.1 ∈ gtbl) (wi : Cond.instanceMethod M.1 ∈ gtbl) (wsl : Cond.selects C M.1 M.1 ∈ gtbl) (wini : Cond.initialized C ∈ gtbl) (wc : Cond.code M.1 M.2.1 M.2.2.1 M.2.2.2 ∈ gtbl) (hd : M.1.cls = C ∧ M.1.cls ≠ "java/lang/invoke/MethodHandle" ∧ M.1.cls ≠ "java/lang/invoke/VarHandle" ∧ (parseMethodDescriptor M.1.desc).map (fun d => d.parameters.length) = some As.length) (hc : vwCl[ci]? = some (C, T, N)) (hlev : k0 + 1 ≤ n) (hml : M.2.2.1 ≤ 22) (d : decode cc pc = .ok (.invokevirtual ix, 3)) (hst : st0 = As.reverse ++ .ref a :: st) (hw : (st.map fun v => v.category).sum ≤ 8) (he : h a = some (.inr (ci, fs))) (hM : RetT Z.1 t k0 M (.ref a :: As) h r h') (k : SW Z (pc + 3) lv (r.toList ++ st) h') : SW Z pc lv st0 h := by
  obtain ⟨G, ⟨p, l, e, R, s, m, args, below, meth, c⟩, ⟨nL', cells, slots⟩, Q, L'⟩ := Z
  intro H locs ls hR hS hl
  obtain ⟨hx, hb, hm1, hm2, hown, hts, hI, hfr, hlo, hce, hsl⟩ := X
  obtain ⟨q, hq⟩ := hR.get he
  subst hst
  have hG : GoodIn gtbl (wsV own ix C M.1 (mws M)) := gtbl_goodIn (fun w hw => by
    rcases List.mem_append.mp hw with h1 | h1
    · simp only [List.mem_cons, List.not_mem_nil, or_false] at h1
      rcases h1 with rfl | rfl | rfl | rfl
      · exact wl
      · exact wi
      · exact wsl
      · exact wini
    · exact mws_in wc w h1)
  have hkp : ∀ a : Nat, a < s.heap.size → ¬ G.2.2 ≤ a → H[a]? = s.heap[a]? := fun a h1 h2 => hS.2.1 a h1 h2
  exact m_ofRun (a := (Value.ref a :: As).toArray) (va_runV (As := As) (rest := st) ⟨hx, hb, hm1, hown, hts⟩ (hM l L') (cwV As.length hts hG rfl rfl rfl hd ⟨Nat.le_trans (show k0 + 1 ≤ n from hlev) hfr, Nat.le_trans (show 8 + (M.2.2.1 + 11) + 41 * k0 ≤ 41 * n by omega) hlo⟩) ⟨mPt.blind, va_recv hI.1 hR.2.1 hc hq, fun U hU hW => ⟨rfl, by rw [hU]; exact hR, hI.warm hW, by
    unfold mSt
    rw [hU]
    exact ⟨va_Z.moved hW.alike (va_Z.kept T9.1 hkp), va_T.moved hW.alike (va_T.kept T9.2 hkp)⟩⟩⟩ rfl rfl (by rw [← hm2]; exact hl.1) rfl (lv_room hw) d ⟨by omega, by omega⟩) hS hl k
end LWR
theorem and63 (w : Int32) : ∃ j, j < 64 ∧ w &&& 63 = nI j := by
  refine ⟨w.toBitVec.toNat % 64, Nat.mod_lt _ (by decide), ?_⟩
  apply Int32.toBitVec_inj.mp
  apply BitVec.eq_of_toNat_eq
  rw [Int32.toBitVec_and, BitVec.toNat_and]
  show w.toBitVec.toNat &&& 2 ^ 6 - 1 = (BitVec.ofNat 32 (w.toBitVec.toNat % 64)).toNat
  rw [Nat.and_two_pow_sub_one_eq_mod, BitVec.toNat_ofNat]
  omega
theorem neg6 : ∀ L, L < 6 → nI L - nI 6 < 0 := by decide +kernel
theorem in6 {L k : Nat} (hL : L ≤ 3072) (hk : 6 * k ≤ 4000) (q : ¬ nI L - nI 6 < nI (6 * k)) : 6 * k + 6 ≤ L := by
  refine Nat.not_lt.mp fun z => q ?_
  by_cases y : L < 6
  · exact Int32.lt_of_lt_of_le (neg6 L y) (nI_pos' (by omega))
  · rw [pk_sub (by omega)]
    exact nI_lt (by omega) (by omega)
theorem INV_x {h : mHp} {x b : Nat} (I : INV h x b) : ∃ fs : List Value, h x = some (.inr (7, fs)) := by
  obtain ⟨hxb, fin, lf, kn, ik, it, lan, siz, tape, ln, P, K, afi, asz, Z, left, nl, lane, many, items, spare, fp, mat, mst, tok, mval, W, past, imgs, kept, gvn, costs, lst, sets, bst, mlo, mal, mpr, lak, trc, C, M, R⟩ := I
  exact ⟨_, C.1 0 _ rfl⟩
