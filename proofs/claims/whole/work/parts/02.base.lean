/-! Heaps as functions of addresses; SW: the machine at a frame over such a heap; a light row an instruction -/
def gtbl : List Cond := lw_tbl.filter goodWord
theorem gtbl_in {w : Cond} (h : w ∈ lw_tbl) (hg : goodWord w = true) : w ∈ gtbl := List.mem_filter.mpr ⟨h, hg⟩
def nestW (w : Cond) : Bool := match w with
  | .fieldLinkNest _ _ _ _ _ _ => true
  | .methodLinkNest _ _ _ _ => true
  | _ => false
def ntbl : List Cond := lw_tbl.filter nestW
theorem ntbl_in {w : Cond} (h : w ∈ lw_tbl) (hg : nestW w = true) : w ∈ ntbl := List.mem_filter.mpr ⟨h, hg⟩
abbrev mC : Type := (Nat × vp_A) ⊕ (Nat × List Value)
abbrev mHp : Type := Nat → Option mC
abbrev mG : Type := va_G × (Nat → ClassId) × Nat
def m_re (dA : Nat → ClassId) (e : mC) : va_E := match e with
  | .inl x => .inl (dA x.1, x.2)
  | .inr o => .inr o
def m_f (dA : Nat → ClassId) (h : mHp) : Nat → va_E := fun a => m_re dA ((h a).getD (.inr (0, [])))
abbrev m_tys (dA : Nat → ClassId) : List (ClassId × FieldType) := [(dA 0, .int), (dA 1, .long), (dA 2, .boolean), (dA 3, .object "UnitHours$Day"), (dA 4, .array .int)]
def mI (G : mG) (U : State) : Prop := va_K G.1 vwCl (m_tys G.2.1) U ∧ ∀ w ∈ ntbl, va_Nw w U
def mR (G : mG) (L : List Nat) (h : mHp) (H : Heap) : Prop := (∀ (a : Nat) (e : mC), h a = some e → a ∈ L) ∧ va_P G.1 vwCl (va_pl L (m_f G.2.1 h)) H ∧ va_D (fun q => G.2.2 ≤ q) (va_pl L (m_f G.2.1 h))
abbrev mZ : Type := mG × (Program × Launch × Env × Room × State × MethodId × Array Value × List Frame × Method × Code) × (Nat × Nat × Nat) × (State → Prop) × List Nat
def SW (Z : mZ) (pc : Nat) (lv : List (Nat × Value)) (st : List Value) (h : mHp) : Prop := match Z with
  | (G, (p, l, e, R, s, m, args, below, meth, c), (nL, cells, slots), Q, L) => ∀ (H : Heap) (locs : List Loc) (ls : Array Slot), mR G L h H → va_S (fun q => G.2.2 ≤ q) s.heap H locs → lv_has ls nL lv → W p l e R s m args below meth c H locs cells slots Q (F0 m pc ls st)
def mCx (Z : mZ) (own : String) (cc : ByteArray) (nL n : Nat) : Prop := match Z with
  | (G, (p, _, _, R, s, m, args, _, _, c), (nL', cells, slots), _, _) => p.tables.exec = Jvm.exec ∧ c.code = cc ∧ c.maxLocals = nL ∧ nL' = nL ∧ s.vm.findClass own = some m.cls ∧ (∀ w ∈ gtbl, w.before args s = true) ∧ mI G s ∧ n ≤ R.frames ∧ 41 * n ≤ R.locals ∧ cells ≤ R.cells ∧ slots ≤ R.slots
def mQ (G : mG) (L : List Nat) (r : Option Value) (h' : mHp) : Array Value → State → Outcome → State → Prop := fun _ st oc t => (oc = .returned r ∧ mR G L h' t.heap) ∧ va_F (fun q => G.2.2 ≤ q) st t
def mP (G : mG) (L : List Nat) (av : List Value) (h : mHp) : Array Value → State → Prop := va_Pc av (fun U => mR G L h U.heap ∧ mI G U)
abbrev mM : Type := MethodName × ByteArray × Nat × Option FieldType
def mws (M : mM) : List Cond := .code M.1 M.2.1 M.2.2.1 M.2.2.2 :: gtbl
def rmL (n : Nat) : Room := { frames := n, cells := 0, slots := 0, locals := 41 * n }
def Ret (G : mG) (n : Nat) (M : mM) (av : List Value) (h : mHp) (r : Option Value) (h' : mHp) : Prop := ∀ (l : Launch) (L : List Nat), Met l M.1 (mws M) (rmL n) (mP G L av h) (mQ G L r h') 0 0 (fun q => G.2.2 ≤ q)
def mEnd (Z : mZ) (ret : Option FieldType) (r : Option Value) (h' : mHp) : Prop := match Z with
  | (G, (_, _, _, _, s, _, args, below, meth, _), (_, cells, slots), Q, L) => Q = MQ below (mQ G L r h') args s cells slots (fun q => G.2.2 ≤ q) ∧ meth.sig.returnType = ret ∧ meth.locks = false
theorem mI.calling {G : mG} {U V : State} (h : mI G U) (hv : U.vm = V.vm) : mI G V := ⟨va_K.moved (by rw [← hv]; exact Vm.Alike.refl U.vm) h.1, fun w hw => va_Nw.same (by
    have := (List.mem_filter.mp hw).2
    cases w <;> first | rfl | (simp [nestW] at this)) hv (h.2 w hw)⟩
theorem mI.warm {G : mG} {s U : State} (h : mI G s) (hW : s.WarmedH U.vm) : mI G U := ⟨va_K.moved hW.alike h.1, fun w hw => by
    have hz := h.2 w hw
    have := (List.mem_filter.mp hw).2
    cases w <;> first | exact va_Nw.warmF hW hz | exact va_Nw.warmM hW hz | (simp [nestW] at this)⟩
theorem mP.blind {G : mG} {L : List Nat} {av : List Value} {h : mHp} : FrameBlind (mP G L av h) := fun a U g mk q => ⟨q.1, q.2.1, mI.calling (V := U.calling g mk a) q.2.2 rfl⟩
theorem mR.get {G : mG} {L : List Nat} {h : mHp} {H : Heap} (hR : mR G L h H) {a : Nat} {e : mC} (he : h a = some e) : ∃ k : Nat, (va_pl L (m_f G.2.1 h))[k]? = some (a, m_re G.2.1 e) := by
  obtain ⟨k, hk⟩ := va_pl_get (X := []) (f := m_f G.2.1 h) (hR.1 a e he)
  refine ⟨k, ?_⟩
  rw [List.nil_append] at hk
  rw [hk]
  simp [m_f, he]
theorem m_f_up (dA : Nat → ClassId) (h : mHp) (a : Nat) (e : mC) : m_f dA (va_up h a (some e)) = va_up (m_f dA h) a (m_re dA e) := by
  funext b
  by_cases hb : b = a
  · simp [m_f, va_up, hb]
  · simp [m_f, va_up, hb]
theorem mR.set {G : mG} {L : List Nat} {h : mHp} {H H1 : Heap} (hR : mR G L h H) {a k : Nat} {e e0 : mC} (he : h a = some e0) (hk : (va_pl L (m_f G.2.1 h))[k]? = some (a, m_re G.2.1 e0)) (hP : va_P G.1 vwCl ((va_pl L (m_f G.2.1 h)).set k (a, m_re G.2.1 e)) H1) (hD : va_D (fun q => G.2.2 ≤ q) ((va_pl L (m_f G.2.1 h)).set k (a, m_re G.2.1 e))) : mR G L (va_up h a (some e)) H1 := by
  have hL := hR.1 a e0 he
  have hk2 : ([] ++ va_pl L (m_f G.2.1 h))[k]? = some (a, m_f G.2.1 h a) := by
    rw [List.nil_append, hk]; simp [m_f, he]
  have hs := va_pl_set (X := []) (e := m_re G.2.1 e) (by rw [List.nil_append]; exact hR.2.2) hL hk2
  rw [List.nil_append, List.nil_append] at hs
  rw [hs, ← m_f_up] at hP hD
  refine ⟨fun b x hb => ?_, hP, hD⟩
  by_cases hba : b = a
  · rw [hba]; exact hL
  · rw [va_up, if_neg hba] at hb; exact hR.1 b x hb
/-- the locals behind a store, in the order of their numbers -/
def m_ins (i : Nat) (v : Value) : List (Nat × Value) → List (Nat × Value)
  | [] => [(i, v)]
  | q :: l => bif Nat.blt i q.1 then (i, v) :: q :: l else q :: m_ins i v l
theorem m_ins_mem {i : Nat} {v : Value} {q : Nat × Value} : ∀ {l : List (Nat × Value)}, q ∈ m_ins i v l → q ∈ (i, v) :: l
  | [], h => h
  | a :: l, h => by
    unfold m_ins at h
    cases hb : Nat.blt i a.1 with
    | true => rw [hb] at h; exact h
    | false =>
      rw [hb] at h
      rcases List.mem_cons.mp h with h | h
      · rw [h]; simp
      · rcases List.mem_cons.mp (m_ins_mem h) with h | h
        · rw [h]; simp
        · simp [h]
def m_st1 (i : Nat) (v : Value) (lv : List (Nat × Value)) : List (Nat × Value) := m_ins i v (lv.filter (fun q => !(q.1 == i) && !(q.1 + 1 == i && q.2.category == 2)))
def m_st2 (i : Nat) (v : Value) (lv : List (Nat × Value)) : List (Nat × Value) := m_ins i v (lv.filter (fun q => !(q.1 == i) && (!(q.1 == i + 1) && !(q.1 + 1 == i && q.2.category == 2))))
theorem lv_ins {ls : Array Slot} {nL i : Nat} {v : Value} {l : List (Nat × Value)} (h : lv_has ls nL ((i, v) :: l)) : lv_has ls nL (m_ins i v l) := ⟨h.1, h.2.1, fun q hq => h.2.2 q (m_ins_mem hq)⟩
section MROWS
variable {Z : mZ} {own : String} {cc : ByteArray} {nL n pc : Nat} {lv lv' : List (Nat × Value)} {st : List Value} {h : mHp}
theorem SW.sub (lv1 : List (Nat × Value)) (hl : ∀ q ∈ lv', q ∈ lv1) (k : SW Z pc lv' st h) : SW Z pc lv1 st h := by
  obtain ⟨G, ⟨p, l, e, R, s, m, args, below, meth, c⟩, ⟨nL', cells, slots⟩, Q, L⟩ := Z
  exact fun H locs ls hR hS hv => k H locs ls hR hS ⟨hv.1, hv.2.1, fun q hq => hv.2.2 q (hl q hq)⟩
theorem r_iload_n (X : mCx Z own cc nL n) {k0 : Fin 4} {x : Int32} (j : Nat) (d : decode cc pc = .ok (.iload_n k0, 1)) (q : lv[j]? = some ((k0 : Nat), .int x)) (k : SW Z (pc + 1) lv (.int x :: st) h) : SW Z pc lv st h := by
  obtain ⟨G, ⟨p, l, e, R, s, m, args, below, meth, c⟩, ⟨nL', cells, slots⟩, Q, L⟩ := Z
  exact fun H locs ls hR hS hl => lv_iload_n X.1 X.2.1 d rfl (lv_at hl j q) (k H locs ls hR hS hl)
theorem r_iload (X : mCx Z own cc nL n) {i0 : Nat} {x : Int32} (j : Nat) (d : decode cc pc = .ok (.iload i0, 2)) (q : lv[j]? = some (i0, .int x)) (k : SW Z (pc + 2) lv (.int x :: st) h) : SW Z pc lv st h := by
  obtain ⟨G, ⟨p, l, e, R, s, m, args, below, meth, c⟩, ⟨nL', cells, slots⟩, Q, L⟩ := Z
  exact fun H locs ls hR hS hl => lv_iload X.1 X.2.1 d (lv_at hl j q) (k H locs ls hR hS hl)
theorem r_lload_n (X : mCx Z own cc nL n) {k0 : Fin 4} {x : Int64} (j : Nat) (d : decode cc pc = .ok (.lload_n k0, 1)) (q : lv[j]? = some ((k0 : Nat), .long x)) (k : SW Z (pc + 1) lv (.long x :: st) h) : SW Z pc lv st h := by
  obtain ⟨G, ⟨p, l, e, R, s, m, args, below, meth, c⟩, ⟨nL', cells, slots⟩, Q, L⟩ := Z
  exact fun H locs ls hR hS hl => lv_lload_n X.1 X.2.1 d rfl (lv_at hl j q) (k H locs ls hR hS hl)
theorem r_lload (X : mCx Z own cc nL n) {i0 : Nat} {x : Int64} (j : Nat) (d : decode cc pc = .ok (.lload i0, 2)) (q : lv[j]? = some (i0, .long x)) (k : SW Z (pc + 2) lv (.long x :: st) h) : SW Z pc lv st h := by
  obtain ⟨G, ⟨p, l, e, R, s, m, args, below, meth, c⟩, ⟨nL', cells, slots⟩, Q, L⟩ := Z
  exact fun H locs ls hR hS hl => lv_lload X.1 X.2.1 d (lv_at hl j q) (k H locs ls hR hS hl)
theorem r_aload_n (X : mCx Z own cc nL n) {k0 : Fin 4} {x : Nat} (j : Nat) (d : decode cc pc = .ok (.aload_n k0, 1)) (q : lv[j]? = some ((k0 : Nat), .ref x)) (k : SW Z (pc + 1) lv (.ref x :: st) h) : SW Z pc lv st h := by
  obtain ⟨G, ⟨p, l, e, R, s, m, args, below, meth, c⟩, ⟨nL', cells, slots⟩, Q, L⟩ := Z
  exact fun H locs ls hR hS hl => lv_aload_n X.1 X.2.1 d rfl (lv_at hl j q) (k H locs ls hR hS hl)
theorem r_aload (X : mCx Z own cc nL n) {i0 : Nat} {x : Nat} (j : Nat) (d : decode cc pc = .ok (.aload i0, 2)) (q : lv[j]? = some (i0, .ref x)) (k : SW Z (pc + 2) lv (.ref x :: st) h) : SW Z pc lv st h := by
  obtain ⟨G, ⟨p, l, e, R, s, m, args, below, meth, c⟩, ⟨nL', cells, slots⟩, Q, L⟩ := Z
  exact fun H locs ls hR hS hl => lv_aload X.1 X.2.1 d (lv_at hl j q) (k H locs ls hR hS hl)
theorem r_istore_n (lv' : List (Nat × Value)) (X : mCx Z own cc nL n) {k0 : Fin 4} {i0 : Nat} {x : Int32} (d : decode cc pc = .ok (.istore_n k0, 1)) (hk : (k0 : Nat) = i0) (hi : i0 < nL) (q : m_st1 i0 (.int x) lv = lv') (k : SW Z (pc + 1) lv' st h) : SW Z pc lv (.int x :: st) h := by
  obtain ⟨G, ⟨p, l, e, R, s, m, args, below, meth, c⟩, ⟨nL', cells, slots⟩, Q, L⟩ := Z
  subst q
  exact fun H locs ls hR hS hl => lv_istore_n X.1 X.2.1 d hk (X.2.2.2.1 ▸ hl) hi rfl (fun ls' hl' => k H locs ls' hR hS (X.2.2.2.1.symm ▸ lv_ins hl'))
theorem r_istore (lv' : List (Nat × Value)) (X : mCx Z own cc nL n) {i0 : Nat} {x : Int32} (d : decode cc pc = .ok (.istore i0, 2)) (hi : i0 < nL) (q : m_st1 i0 (.int x) lv = lv') (k : SW Z (pc + 2) lv' st h) : SW Z pc lv (.int x :: st) h := by
  obtain ⟨G, ⟨p, l, e, R, s, m, args, below, meth, c⟩, ⟨nL', cells, slots⟩, Q, L⟩ := Z
  subst q
  exact fun H locs ls hR hS hl => lv_istore X.1 X.2.1 d (X.2.2.2.1 ▸ hl) hi rfl (fun ls' hl' => k H locs ls' hR hS (X.2.2.2.1.symm ▸ lv_ins hl'))
theorem r_astore_n (lv' : List (Nat × Value)) (X : mCx Z own cc nL n) {k0 : Fin 4} {i0 : Nat} {x : Nat} (d : decode cc pc = .ok (.astore_n k0, 1)) (hk : (k0 : Nat) = i0) (hi : i0 < nL) (q : m_st1 i0 (.ref x) lv = lv') (k : SW Z (pc + 1) lv' st h) : SW Z pc lv (.ref x :: st) h := by
  obtain ⟨G, ⟨p, l, e, R, s, m, args, below, meth, c⟩, ⟨nL', cells, slots⟩, Q, L⟩ := Z
  subst q
  exact fun H locs ls hR hS hl => lv_astore_n X.1 X.2.1 d hk (X.2.2.2.1 ▸ hl) hi rfl (fun ls' hl' => k H locs ls' hR hS (X.2.2.2.1.symm ▸ lv_ins hl'))
theorem r_astore (lv' : List (Nat × Value)) (X : mCx Z own cc nL n) {i0 : Nat} {x : Nat} (d : decode cc pc = .ok (.astore i0, 2)) (hi : i0 < nL) (q : m_st1 i0 (.ref x) lv = lv') (k : SW Z (pc + 2) lv' st h) : SW Z pc lv (.ref x :: st) h := by
  obtain ⟨G, ⟨p, l, e, R, s, m, args, below, meth, c⟩, ⟨nL', cells, slots⟩, Q, L⟩ := Z
  subst q
  exact fun H locs ls hR hS hl => lv_astore X.1 X.2.1 d (X.2.2.2.1 ▸ hl) hi rfl (fun ls' hl' => k H locs ls' hR hS (X.2.2.2.1.symm ▸ lv_ins hl'))
theorem r_lstore_n (lv' : List (Nat × Value)) (X : mCx Z own cc nL n) {k0 : Fin 4} {i0 : Nat} {x : Int64} (d : decode cc pc = .ok (.lstore_n k0, 1)) (hk : (k0 : Nat) = i0) (hi : i0 + 1 < nL) (q : m_st2 i0 (.long x) lv = lv') (k : SW Z (pc + 1) lv' st h) : SW Z pc lv (.long x :: st) h := by
  obtain ⟨G, ⟨p, l, e, R, s, m, args, below, meth, c⟩, ⟨nL', cells, slots⟩, Q, L⟩ := Z
  subst q
  exact fun H locs ls hR hS hl => lv_lstore_n X.1 X.2.1 d hk (X.2.2.2.1 ▸ hl) hi rfl (fun ls' hl' => k H locs ls' hR hS (X.2.2.2.1.symm ▸ lv_ins hl'))
theorem r_lstore (lv' : List (Nat × Value)) (X : mCx Z own cc nL n) {i0 : Nat} {x : Int64} (d : decode cc pc = .ok (.lstore i0, 2)) (hi : i0 + 1 < nL) (q : m_st2 i0 (.long x) lv = lv') (k : SW Z (pc + 2) lv' st h) : SW Z pc lv (.long x :: st) h := by
  obtain ⟨G, ⟨p, l, e, R, s, m, args, below, meth, c⟩, ⟨nL', cells, slots⟩, Q, L⟩ := Z
  subst q
  exact fun H locs ls hR hS hl => lv_lstore X.1 X.2.1 d (X.2.2.2.1 ▸ hl) hi rfl (fun ls' hl' => k H locs ls' hR hS (X.2.2.2.1.symm ▸ lv_ins hl'))
theorem r_iinc (lv' : List (Nat × Value)) (X : mCx Z own cc nL n) {i0 : Nat} {z : Int} {x : Int32} (v : Int32) (j : Nat) (d : decode cc pc = .ok (.iinc i0 z, 3)) (q0 : lv[j]? = some (i0, .int x)) (hv : x + Int32.ofInt z = v) (hi : i0 < nL) (q : m_st1 i0 (.int v) lv = lv') (k : SW Z (pc + 3) lv' st h) : SW Z pc lv st h := by
  obtain ⟨G, ⟨p, l, e, R, s, m, args, below, meth, c⟩, ⟨nL', cells, slots⟩, Q, L⟩ := Z
  subst q
  exact fun H locs ls hR hS hl => lv_iinc X.1 X.2.1 d (X.2.2.2.1 ▸ hl) q0 hv hi rfl (fun ls' hl' => k H locs ls' hR hS (X.2.2.2.1.symm ▸ lv_ins hl'))
theorem r_iconst (X : mCx Z own cc nL n) {z : Int} (v : Int32) (d : decode cc pc = .ok (.iconst z, 1)) (hv : Int32.ofInt z = v) (k : SW Z (pc + 1) lv (.int v :: st) h) : SW Z pc lv st h := by
  obtain ⟨G, ⟨p, l, e, R, s, m, args, below, meth, c⟩, ⟨nL', cells, slots⟩, Q, L⟩ := Z
  exact fun H locs ls hR hS hl => lv_iconst X.1 X.2.1 d hv (k H locs ls hR hS hl)
theorem r_bipush (X : mCx Z own cc nL n) {z : Int} (v : Int32) (d : decode cc pc = .ok (.bipush z, 2)) (hv : (Int8.ofInt z).toInt32 = v) (k : SW Z (pc + 2) lv (.int v :: st) h) : SW Z pc lv st h := by
  obtain ⟨G, ⟨p, l, e, R, s, m, args, below, meth, c⟩, ⟨nL', cells, slots⟩, Q, L⟩ := Z
  exact fun H locs ls hR hS hl => lv_bipush X.1 X.2.1 d hv (k H locs ls hR hS hl)
theorem r_sipush (X : mCx Z own cc nL n) {z : Int} (v : Int32) (d : decode cc pc = .ok (.sipush z, 3)) (hv : (Int16.ofInt z).toInt32 = v) (k : SW Z (pc + 3) lv (.int v :: st) h) : SW Z pc lv st h := by
  obtain ⟨G, ⟨p, l, e, R, s, m, args, below, meth, c⟩, ⟨nL', cells, slots⟩, Q, L⟩ := Z
  exact fun H locs ls hR hS hl => lv_sipush X.1 X.2.1 d hv (k H locs ls hR hS hl)
theorem r_lconst (X : mCx Z own cc nL n) {z : Fin 2} (v : Int64) (d : decode cc pc = .ok (.lconst z, 1)) (hv : Int64.ofNat (z : Nat) = v) (k : SW Z (pc + 1) lv (.long v :: st) h) : SW Z pc lv st h := by
  obtain ⟨G, ⟨p, l, e, R, s, m, args, below, meth, c⟩, ⟨nL', cells, slots⟩, Q, L⟩ := Z
  exact fun H locs ls hR hS hl => lv_lconst X.1 X.2.1 d hv (k H locs ls hR hS hl)
theorem r_ldc (X : mCx Z own cc nL n) {ix : Nat} {v : Int32} (d : decode cc pc = .ok (.ldc ix, 2)) (hw : Cond.constant own ix v ∈ gtbl) (k : SW Z (pc + 2) lv (.int v :: st) h) : SW Z pc lv st h := by
  obtain ⟨G, ⟨p, l, e, R, s, m, args, below, meth, c⟩, ⟨nL', cells, slots⟩, Q, L⟩ := Z
  exact fun H locs ls hR hS hl => lv_ldc X.1 X.2.1 X.2.2.2.2.1 (X.2.2.2.2.2.1 _ hw) d (k H locs ls hR hS hl)
theorem r_ldcw (X : mCx Z own cc nL n) {ix : Nat} {v : Int32} (d : decode cc pc = .ok (.ldc_w ix, 3)) (hw : Cond.constant own ix v ∈ gtbl) (k : SW Z (pc + 3) lv (.int v :: st) h) : SW Z pc lv st h := by
  obtain ⟨G, ⟨p, l, e, R, s, m, args, below, meth, c⟩, ⟨nL', cells, slots⟩, Q, L⟩ := Z
  exact fun H locs ls hR hS hl => lv_ldcw X.1 X.2.1 X.2.2.2.2.1 (X.2.2.2.2.2.1 _ hw) d (k H locs ls hR hS hl)
theorem r_ldc2 (X : mCx Z own cc nL n) {ix : Nat} {v : Int64} (d : decode cc pc = .ok (.ldc2_w ix, 3)) (hw : Cond.constantLong own ix v ∈ gtbl) (k : SW Z (pc + 3) lv (.long v :: st) h) : SW Z pc lv st h := by
  obtain ⟨G, ⟨p, l, e, R, s, m, args, below, meth, c⟩, ⟨nL', cells, slots⟩, Q, L⟩ := Z
  exact fun H locs ls hR hS hl => lv_ldc2 X.1 X.2.1 X.2.2.2.2.1 (X.2.2.2.2.2.1 _ hw) d (k H locs ls hR hS hl)
theorem r_iadd (X : mCx Z own cc nL n) {x y : Int32} (d : decode cc pc = .ok (.iadd, 1)) (k : SW Z (pc + 1) lv (.int (x + y) :: st) h) : SW Z pc lv (.int y :: .int x :: st) h := by
  obtain ⟨G, ⟨p, l, e, R, s, m, args, below, meth, c⟩, ⟨nL', cells, slots⟩, Q, L⟩ := Z
  exact fun H locs ls hR hS hl => lv_iadd X.1 X.2.1 d (k H locs ls hR hS hl)
theorem r_isub (X : mCx Z own cc nL n) {x y : Int32} (d : decode cc pc = .ok (.isub, 1)) (k : SW Z (pc + 1) lv (.int (x - y) :: st) h) : SW Z pc lv (.int y :: .int x :: st) h := by
  obtain ⟨G, ⟨p, l, e, R, s, m, args, below, meth, c⟩, ⟨nL', cells, slots⟩, Q, L⟩ := Z
  exact fun H locs ls hR hS hl => lv_isub X.1 X.2.1 d (k H locs ls hR hS hl)
theorem r_imul (X : mCx Z own cc nL n) {x y : Int32} (d : decode cc pc = .ok (.imul, 1)) (k : SW Z (pc + 1) lv (.int (x * y) :: st) h) : SW Z pc lv (.int y :: .int x :: st) h := by
  obtain ⟨G, ⟨p, l, e, R, s, m, args, below, meth, c⟩, ⟨nL', cells, slots⟩, Q, L⟩ := Z
  exact fun H locs ls hR hS hl => lv_imul X.1 X.2.1 d (k H locs ls hR hS hl)
theorem r_iand (X : mCx Z own cc nL n) {x y : Int32} (d : decode cc pc = .ok (.iand, 1)) (k : SW Z (pc + 1) lv (.int (x &&& y) :: st) h) : SW Z pc lv (.int y :: .int x :: st) h := by
  obtain ⟨G, ⟨p, l, e, R, s, m, args, below, meth, c⟩, ⟨nL', cells, slots⟩, Q, L⟩ := Z
  exact fun H locs ls hR hS hl => lv_iand X.1 X.2.1 d (k H locs ls hR hS hl)
theorem r_ior (X : mCx Z own cc nL n) {x y : Int32} (d : decode cc pc = .ok (.ior, 1)) (k : SW Z (pc + 1) lv (.int (x ||| y) :: st) h) : SW Z pc lv (.int y :: .int x :: st) h := by
  obtain ⟨G, ⟨p, l, e, R, s, m, args, below, meth, c⟩, ⟨nL', cells, slots⟩, Q, L⟩ := Z
  exact fun H locs ls hR hS hl => lv_ior X.1 X.2.1 d (k H locs ls hR hS hl)
theorem r_ixor (X : mCx Z own cc nL n) {x y : Int32} (d : decode cc pc = .ok (.ixor, 1)) (k : SW Z (pc + 1) lv (.int (x ^^^ y) :: st) h) : SW Z pc lv (.int y :: .int x :: st) h := by
  obtain ⟨G, ⟨p, l, e, R, s, m, args, below, meth, c⟩, ⟨nL', cells, slots⟩, Q, L⟩ := Z
  exact fun H locs ls hR hS hl => lv_ixor X.1 X.2.1 d (k H locs ls hR hS hl)
theorem r_ishl (X : mCx Z own cc nL n) {x y : Int32} (d : decode cc pc = .ok (.ishl, 1)) (k : SW Z (pc + 1) lv (.int (x <<< (y &&& 31)) :: st) h) : SW Z pc lv (.int y :: .int x :: st) h := by
  obtain ⟨G, ⟨p, l, e, R, s, m, args, below, meth, c⟩, ⟨nL', cells, slots⟩, Q, L⟩ := Z
  exact fun H locs ls hR hS hl => lv_ishl X.1 X.2.1 d (k H locs ls hR hS hl)
theorem r_ishr (X : mCx Z own cc nL n) {x y : Int32} (d : decode cc pc = .ok (.ishr, 1)) (k : SW Z (pc + 1) lv (.int (x >>> (y &&& 31)) :: st) h) : SW Z pc lv (.int y :: .int x :: st) h := by
  obtain ⟨G, ⟨p, l, e, R, s, m, args, below, meth, c⟩, ⟨nL', cells, slots⟩, Q, L⟩ := Z
  exact fun H locs ls hR hS hl => lv_ishr X.1 X.2.1 d (k H locs ls hR hS hl)
theorem r_idiv (X : mCx Z own cc nL n) {x y : Int32} (d : decode cc pc = .ok (.idiv, 1)) (hne : ¬ y = 0) (k : SW Z (pc + 1) lv (.int (x / y) :: st) h) : SW Z pc lv (.int y :: .int x :: st) h := by
  obtain ⟨G, ⟨p, l, e, R, s, m, args, below, meth, c⟩, ⟨nL', cells, slots⟩, Q, L⟩ := Z
  exact fun H locs ls hR hS hl => lv_idiv X.1 X.2.1 d hne (k H locs ls hR hS hl)
theorem r_irem (X : mCx Z own cc nL n) {x y : Int32} (d : decode cc pc = .ok (.irem, 1)) (hne : ¬ y = 0) (k : SW Z (pc + 1) lv (.int (x - x / y * y) :: st) h) : SW Z pc lv (.int y :: .int x :: st) h := by
  obtain ⟨G, ⟨p, l, e, R, s, m, args, below, meth, c⟩, ⟨nL', cells, slots⟩, Q, L⟩ := Z
  exact fun H locs ls hR hS hl => lv_irem X.1 X.2.1 d hne (k H locs ls hR hS hl)
theorem r_ladd (X : mCx Z own cc nL n) {x y : Int64} (d : decode cc pc = .ok (.ladd, 1)) (k : SW Z (pc + 1) lv (.long (x + y) :: st) h) : SW Z pc lv (.long y :: .long x :: st) h := by
  obtain ⟨G, ⟨p, l, e, R, s, m, args, below, meth, c⟩, ⟨nL', cells, slots⟩, Q, L⟩ := Z
  exact fun H locs ls hR hS hl => lv_ladd X.1 X.2.1 d (k H locs ls hR hS hl)
theorem r_lsub (X : mCx Z own cc nL n) {x y : Int64} (d : decode cc pc = .ok (.lsub, 1)) (k : SW Z (pc + 1) lv (.long (x - y) :: st) h) : SW Z pc lv (.long y :: .long x :: st) h := by
  obtain ⟨G, ⟨p, l, e, R, s, m, args, below, meth, c⟩, ⟨nL', cells, slots⟩, Q, L⟩ := Z
  exact fun H locs ls hR hS hl => lv_lsub X.1 X.2.1 d (k H locs ls hR hS hl)
theorem r_lmul (X : mCx Z own cc nL n) {x y : Int64} (d : decode cc pc = .ok (.lmul, 1)) (k : SW Z (pc + 1) lv (.long (x * y) :: st) h) : SW Z pc lv (.long y :: .long x :: st) h := by
  obtain ⟨G, ⟨p, l, e, R, s, m, args, below, meth, c⟩, ⟨nL', cells, slots⟩, Q, L⟩ := Z
  exact fun H locs ls hR hS hl => lv_lmul X.1 X.2.1 d (k H locs ls hR hS hl)
theorem r_ldiv (X : mCx Z own cc nL n) {x y : Int64} (d : decode cc pc = .ok (.ldiv, 1)) (hne : ¬ y = 0) (k : SW Z (pc + 1) lv (.long (x / y) :: st) h) : SW Z pc lv (.long y :: .long x :: st) h := by
  obtain ⟨G, ⟨p, l, e, R, s, m, args, below, meth, c⟩, ⟨nL', cells, slots⟩, Q, L⟩ := Z
  exact fun H locs ls hR hS hl => lv_ldiv X.1 X.2.1 d hne (k H locs ls hR hS hl)
theorem r_lrem (X : mCx Z own cc nL n) {x y : Int64} (d : decode cc pc = .ok (.lrem, 1)) (hne : ¬ y = 0) (k : SW Z (pc + 1) lv (.long (x - x / y * y) :: st) h) : SW Z pc lv (.long y :: .long x :: st) h := by
  obtain ⟨G, ⟨p, l, e, R, s, m, args, below, meth, c⟩, ⟨nL', cells, slots⟩, Q, L⟩ := Z
  exact fun H locs ls hR hS hl => lv_lrem X.1 X.2.1 d hne (k H locs ls hR hS hl)
theorem r_ineg (X : mCx Z own cc nL n) {x : Int32} (d : decode cc pc = .ok (.ineg, 1)) (k : SW Z (pc + 1) lv (.int (-x) :: st) h) : SW Z pc lv (.int x :: st) h := by
  obtain ⟨G, ⟨p, l, e, R, s, m, args, below, meth, c⟩, ⟨nL', cells, slots⟩, Q, L⟩ := Z
  exact fun H locs ls hR hS hl => lv_ineg X.1 X.2.1 d (k H locs ls hR hS hl)
theorem r_iushr (X : mCx Z own cc nL n) {x y : Int32} (d : decode cc pc = .ok (.iushr, 1)) (k : SW Z (pc + 1) lv (.int ((x.toUInt32 >>> (y.toUInt32 &&& Int32.toUInt32 31)).toInt32) :: st) h) : SW Z pc lv (.int y :: .int x :: st) h := by
  obtain ⟨G, ⟨p, l, e, R, s, m, args, below, meth, c⟩, ⟨nL', cells, slots⟩, Q, L⟩ := Z
  exact fun H locs ls hR hS hl => lv_iushr X.1 X.2.1 d rfl (k H locs ls hR hS hl)
theorem r_lshl (X : mCx Z own cc nL n) {x : Int64} {y : Int32} (d : decode cc pc = .ok (.lshl, 1)) (k : SW Z (pc + 1) lv (.long (x <<< (y.toInt64 &&& 63)) :: st) h) : SW Z pc lv (.int y :: .long x :: st) h := by
  obtain ⟨G, ⟨p, l, e, R, s, m, args, below, meth, c⟩, ⟨nL', cells, slots⟩, Q, L⟩ := Z
  exact fun H locs ls hR hS hl => lv_lshl X.1 X.2.1 d rfl (k H locs ls hR hS hl)
theorem r_lshr (X : mCx Z own cc nL n) {x : Int64} {y : Int32} (d : decode cc pc = .ok (.lshr, 1)) (k : SW Z (pc + 1) lv (.long (x >>> (y.toInt64 &&& 63)) :: st) h) : SW Z pc lv (.int y :: .long x :: st) h := by
  obtain ⟨G, ⟨p, l, e, R, s, m, args, below, meth, c⟩, ⟨nL', cells, slots⟩, Q, L⟩ := Z
  exact fun H locs ls hR hS hl => lv_lshr X.1 X.2.1 d rfl (k H locs ls hR hS hl)
theorem r_i2l (X : mCx Z own cc nL n) {x : Int32} (d : decode cc pc = .ok (.i2l, 1)) (k : SW Z (pc + 1) lv (.long x.toInt64 :: st) h) : SW Z pc lv (.int x :: st) h := by
  obtain ⟨G, ⟨p, l, e, R, s, m, args, below, meth, c⟩, ⟨nL', cells, slots⟩, Q, L⟩ := Z
  exact fun H locs ls hR hS hl => lv_i2l X.1 X.2.1 d rfl (k H locs ls hR hS hl)
theorem r_l2i (X : mCx Z own cc nL n) {x : Int64} (d : decode cc pc = .ok (.l2i, 1)) (k : SW Z (pc + 1) lv (.int x.toInt32 :: st) h) : SW Z pc lv (.long x :: st) h := by
  obtain ⟨G, ⟨p, l, e, R, s, m, args, below, meth, c⟩, ⟨nL', cells, slots⟩, Q, L⟩ := Z
  exact fun H locs ls hR hS hl => lv_l2i X.1 X.2.1 d rfl (k H locs ls hR hS hl)
theorem r_i2b (X : mCx Z own cc nL n) {x : Int32} (d : decode cc pc = .ok (.i2b, 1)) (k : SW Z (pc + 1) lv (.int x.toInt8.toInt32 :: st) h) : SW Z pc lv (.int x :: st) h := by
  obtain ⟨G, ⟨p, l, e, R, s, m, args, below, meth, c⟩, ⟨nL', cells, slots⟩, Q, L⟩ := Z
  exact fun H locs ls hR hS hl => lv_i2b X.1 X.2.1 d rfl (k H locs ls hR hS hl)
theorem r_i2s (X : mCx Z own cc nL n) {x : Int32} (d : decode cc pc = .ok (.i2s, 1)) (k : SW Z (pc + 1) lv (.int x.toInt16.toInt32 :: st) h) : SW Z pc lv (.int x :: st) h := by
  obtain ⟨G, ⟨p, l, e, R, s, m, args, below, meth, c⟩, ⟨nL', cells, slots⟩, Q, L⟩ := Z
  exact fun H locs ls hR hS hl => lv_i2s X.1 X.2.1 d rfl (k H locs ls hR hS hl)
theorem r_dup (X : mCx Z own cc nL n) {a : Value} (d : decode cc pc = .ok (.dup, 1)) (ha : a.category = 1) (k : SW Z (pc + 1) lv (a :: a :: st) h) : SW Z pc lv (a :: st) h := by
  obtain ⟨G, ⟨p, l, e, R, s, m, args, below, meth, c⟩, ⟨nL', cells, slots⟩, Q, L⟩ := Z
  exact fun H locs ls hR hS hl => lv_dup X.1 X.2.1 d ha (k H locs ls hR hS hl)
theorem r_dup2 (X : mCx Z own cc nL n) {a b : Value} (d : decode cc pc = .ok (.dup2, 1)) (ha : a.category = 1) (hb : b.category = 1) (k : SW Z (pc + 1) lv (a :: b :: a :: b :: st) h) : SW Z pc lv (a :: b :: st) h := by
  obtain ⟨G, ⟨p, l, e, R, s, m, args, below, meth, c⟩, ⟨nL', cells, slots⟩, Q, L⟩ := Z
  exact fun H locs ls hR hS hl => lv_dup2_11 X.1 X.2.1 d ha hb (k H locs ls hR hS hl)
theorem r_pop (X : mCx Z own cc nL n) {a : Value} (d : decode cc pc = .ok (.pop, 1)) (ha : a.category = 1) (k : SW Z (pc + 1) lv st h) : SW Z pc lv (a :: st) h := by
  obtain ⟨G, ⟨p, l, e, R, s, m, args, below, meth, c⟩, ⟨nL', cells, slots⟩, Q, L⟩ := Z
  exact fun H locs ls hR hS hl => lv_pop X.1 X.2.1 d ha (k H locs ls hR hS hl)
theorem r_goto (X : mCx Z own cc nL n) {off : Int} (tgt : Nat) (d : decode cc pc = .ok (.goto off, 3)) (ht : (pc : Int) + off = (tgt : Int)) (k : SW Z tgt lv st h) : SW Z pc lv st h := by
  obtain ⟨G, ⟨p, l, e, R, s, m, args, below, meth, c⟩, ⟨nL', cells, slots⟩, Q, L⟩ := Z
  exact fun H locs ls hR hS hl => lv_goto X.1 X.2.1 d ht (k H locs ls hR hS hl)
theorem r_icmp_eq (X : mCx Z own cc nL n) {x y : Int32} {off : Int} (tgt : Nat) (d : decode cc pc = .ok (.if_icmp .eq off, 3)) (ht : (pc : Int) + off = (tgt : Int)) (kt : x = y → SW Z tgt lv st h) (kf : ¬ x = y → SW Z (pc + 3) lv st h) : SW Z pc lv (.int y :: .int x :: st) h := by
  obtain ⟨G, ⟨p, l, e, R, s, m, args, below, meth, c⟩, ⟨nL', cells, slots⟩, Q, L⟩ := Z
  exact fun H locs ls hR hS hl => lv_icmp_eq X.1 X.2.1 d ht (fun z => kt (z) H locs ls hR hS hl) (fun z => kf (z) H locs ls hR hS hl)
theorem r_icmp_ne (X : mCx Z own cc nL n) {x y : Int32} {off : Int} (tgt : Nat) (d : decode cc pc = .ok (.if_icmp .ne off, 3)) (ht : (pc : Int) + off = (tgt : Int)) (kt : ¬ x = y → SW Z tgt lv st h) (kf : x = y → SW Z (pc + 3) lv st h) : SW Z pc lv (.int y :: .int x :: st) h := by
  obtain ⟨G, ⟨p, l, e, R, s, m, args, below, meth, c⟩, ⟨nL', cells, slots⟩, Q, L⟩ := Z
  exact fun H locs ls hR hS hl => lv_icmp_ne X.1 X.2.1 d ht (fun z => kt (z) H locs ls hR hS hl) (fun z => kf (z) H locs ls hR hS hl)
theorem r_icmp_lt (X : mCx Z own cc nL n) {x y : Int32} {off : Int} (tgt : Nat) (d : decode cc pc = .ok (.if_icmp .lt off, 3)) (ht : (pc : Int) + off = (tgt : Int)) (kt : x < y → SW Z tgt lv st h) (kf : ¬ x < y → SW Z (pc + 3) lv st h) : SW Z pc lv (.int y :: .int x :: st) h := by
  obtain ⟨G, ⟨p, l, e, R, s, m, args, below, meth, c⟩, ⟨nL', cells, slots⟩, Q, L⟩ := Z
  exact fun H locs ls hR hS hl => lv_icmp_lt X.1 X.2.1 d ht (fun z => kt (z) H locs ls hR hS hl) (fun z => kf (z) H locs ls hR hS hl)
theorem r_icmp_ge (X : mCx Z own cc nL n) {x y : Int32} {off : Int} (tgt : Nat) (d : decode cc pc = .ok (.if_icmp .ge off, 3)) (ht : (pc : Int) + off = (tgt : Int)) (kt : ¬ x < y → SW Z tgt lv st h) (kf : x < y → SW Z (pc + 3) lv st h) : SW Z pc lv (.int y :: .int x :: st) h := by
  obtain ⟨G, ⟨p, l, e, R, s, m, args, below, meth, c⟩, ⟨nL', cells, slots⟩, Q, L⟩ := Z
  exact fun H locs ls hR hS hl => lv_icmp_ge X.1 X.2.1 d ht (fun z => kt (Int32.not_lt.mpr z) H locs ls hR hS hl) (fun z => kf (Int32.not_le.mp z) H locs ls hR hS hl)
theorem r_icmp_gt (X : mCx Z own cc nL n) {x y : Int32} {off : Int} (tgt : Nat) (d : decode cc pc = .ok (.if_icmp .gt off, 3)) (ht : (pc : Int) + off = (tgt : Int)) (kt : y < x → SW Z tgt lv st h) (kf : ¬ y < x → SW Z (pc + 3) lv st h) : SW Z pc lv (.int y :: .int x :: st) h := by
  obtain ⟨G, ⟨p, l, e, R, s, m, args, below, meth, c⟩, ⟨nL', cells, slots⟩, Q, L⟩ := Z
  exact fun H locs ls hR hS hl => lv_icmp_gt X.1 X.2.1 d ht (fun z => kt (z) H locs ls hR hS hl) (fun z => kf (z) H locs ls hR hS hl)
theorem r_icmp_le (X : mCx Z own cc nL n) {x y : Int32} {off : Int} (tgt : Nat) (d : decode cc pc = .ok (.if_icmp .le off, 3)) (ht : (pc : Int) + off = (tgt : Int)) (kt : ¬ y < x → SW Z tgt lv st h) (kf : y < x → SW Z (pc + 3) lv st h) : SW Z pc lv (.int y :: .int x :: st) h := by
  obtain ⟨G, ⟨p, l, e, R, s, m, args, below, meth, c⟩, ⟨nL', cells, slots⟩, Q, L⟩ := Z
  exact fun H locs ls hR hS hl => lv_icmp_le X.1 X.2.1 d ht (fun z => kt (Int32.not_lt.mpr z) H locs ls hR hS hl) (fun z => kf (Int32.not_le.mp z) H locs ls hR hS hl)
theorem r_if_eq (X : mCx Z own cc nL n) {x : Int32} {off : Int} (tgt : Nat) (d : decode cc pc = .ok (.ifCond .eq off, 3)) (ht : (pc : Int) + off = (tgt : Int)) (kt : x = 0 → SW Z tgt lv st h) (kf : ¬ x = 0 → SW Z (pc + 3) lv st h) : SW Z pc lv (.int x :: st) h := by
  obtain ⟨G, ⟨p, l, e, R, s, m, args, below, meth, c⟩, ⟨nL', cells, slots⟩, Q, L⟩ := Z
  exact fun H locs ls hR hS hl => lv_if_eq X.1 X.2.1 d ht (fun z => kt (z) H locs ls hR hS hl) (fun z => kf (z) H locs ls hR hS hl)
theorem r_if_ne (X : mCx Z own cc nL n) {x : Int32} {off : Int} (tgt : Nat) (d : decode cc pc = .ok (.ifCond .ne off, 3)) (ht : (pc : Int) + off = (tgt : Int)) (kt : ¬ x = 0 → SW Z tgt lv st h) (kf : x = 0 → SW Z (pc + 3) lv st h) : SW Z pc lv (.int x :: st) h := by
  obtain ⟨G, ⟨p, l, e, R, s, m, args, below, meth, c⟩, ⟨nL', cells, slots⟩, Q, L⟩ := Z
  exact fun H locs ls hR hS hl => lv_if_ne X.1 X.2.1 d ht (fun z => kt (z) H locs ls hR hS hl) (fun z => kf (z) H locs ls hR hS hl)
theorem r_if_lt (X : mCx Z own cc nL n) {x : Int32} {off : Int} (tgt : Nat) (d : decode cc pc = .ok (.ifCond .lt off, 3)) (ht : (pc : Int) + off = (tgt : Int)) (kt : x < 0 → SW Z tgt lv st h) (kf : ¬ x < 0 → SW Z (pc + 3) lv st h) : SW Z pc lv (.int x :: st) h := by
  obtain ⟨G, ⟨p, l, e, R, s, m, args, below, meth, c⟩, ⟨nL', cells, slots⟩, Q, L⟩ := Z
  exact fun H locs ls hR hS hl => lv_if_lt X.1 X.2.1 d ht (fun z => kt (z) H locs ls hR hS hl) (fun z => kf (z) H locs ls hR hS hl)
theorem r_if_ge (X : mCx Z own cc nL n) {x : Int32} {off : Int} (tgt : Nat) (d : decode cc pc = .ok (.ifCond .ge off, 3)) (ht : (pc : Int) + off = (tgt : Int)) (kt : ¬ x < 0 → SW Z tgt lv st h) (kf : x < 0 → SW Z (pc + 3) lv st h) : SW Z pc lv (.int x :: st) h := by
  obtain ⟨G, ⟨p, l, e, R, s, m, args, below, meth, c⟩, ⟨nL', cells, slots⟩, Q, L⟩ := Z
  exact fun H locs ls hR hS hl => lv_if_ge X.1 X.2.1 d ht (fun z => kt (Int32.not_lt.mpr z) H locs ls hR hS hl) (fun z => kf (Int32.not_le.mp z) H locs ls hR hS hl)
theorem r_if_gt (X : mCx Z own cc nL n) {x : Int32} {off : Int} (tgt : Nat) (d : decode cc pc = .ok (.ifCond .gt off, 3)) (ht : (pc : Int) + off = (tgt : Int)) (kt : 0 < x → SW Z tgt lv st h) (kf : ¬ 0 < x → SW Z (pc + 3) lv st h) : SW Z pc lv (.int x :: st) h := by
  obtain ⟨G, ⟨p, l, e, R, s, m, args, below, meth, c⟩, ⟨nL', cells, slots⟩, Q, L⟩ := Z
  exact fun H locs ls hR hS hl => lv_if_gt X.1 X.2.1 d ht (fun z => kt (z) H locs ls hR hS hl) (fun z => kf (z) H locs ls hR hS hl)
theorem r_if_le (X : mCx Z own cc nL n) {x : Int32} {off : Int} (tgt : Nat) (d : decode cc pc = .ok (.ifCond .le off, 3)) (ht : (pc : Int) + off = (tgt : Int)) (kt : ¬ 0 < x → SW Z tgt lv st h) (kf : 0 < x → SW Z (pc + 3) lv st h) : SW Z pc lv (.int x :: st) h := by
  obtain ⟨G, ⟨p, l, e, R, s, m, args, below, meth, c⟩, ⟨nL', cells, slots⟩, Q, L⟩ := Z
  exact fun H locs ls hR hS hl => lv_if_le X.1 X.2.1 d ht (fun z => kt (Int32.not_lt.mpr z) H locs ls hR hS hl) (fun z => kf (Int32.not_le.mp z) H locs ls hR hS hl)
theorem r_lcmp (X : mCx Z own cc nL n) {x y : Int64} (d : decode cc pc = .ok (.lcmp, 1)) (k : SW Z (pc + 1) lv (.int (lg_cmp x y) :: st) h) : SW Z pc lv (.long y :: .long x :: st) h := by
  obtain ⟨G, ⟨p, l, e, R, s, m, args, below, meth, c⟩, ⟨nL', cells, slots⟩, Q, L⟩ := Z
  exact fun H locs ls hR hS hl => W.lcmp X.1 X.2.1 d (k H locs ls hR hS hl)
theorem r_lcmp_lt (X : mCx Z own cc nL n) {x y : Int64} {off : Int} (tgt : Nat) (d0 : decode cc pc = .ok (.lcmp, 1)) (d : decode cc (pc + 1) = .ok (.ifCond .lt off, 3)) (ht : ((pc + 1 : Nat) : Int) + off = (tgt : Int)) (kt : x < y → SW Z tgt lv st h) (kf : ¬ x < y → SW Z (pc + 1 + 3) lv st h) : SW Z pc lv (.long y :: .long x :: st) h := r_lcmp X d0 (r_if_lt X tgt d ht (fun z => kt ((lg_cmp_lt x y).mp z)) (fun z => kf (fun q => z ((lg_cmp_lt x y).mpr q))))
theorem r_lcmp_ge (X : mCx Z own cc nL n) {x y : Int64} {off : Int} (tgt : Nat) (d0 : decode cc pc = .ok (.lcmp, 1)) (d : decode cc (pc + 1) = .ok (.ifCond .ge off, 3)) (ht : ((pc + 1 : Nat) : Int) + off = (tgt : Int)) (kt : ¬ x < y → SW Z tgt lv st h) (kf : x < y → SW Z (pc + 1 + 3) lv st h) : SW Z pc lv (.long y :: .long x :: st) h := r_lcmp X d0 (r_if_ge X tgt d ht (fun z => kt (fun q => z ((lg_cmp_lt x y).mpr q))) (fun z => kf ((lg_cmp_lt x y).mp z)))
theorem r_lcmp_gt (X : mCx Z own cc nL n) {x y : Int64} {off : Int} (tgt : Nat) (d0 : decode cc pc = .ok (.lcmp, 1)) (d : decode cc (pc + 1) = .ok (.ifCond .gt off, 3)) (ht : ((pc + 1 : Nat) : Int) + off = (tgt : Int)) (kt : y < x → SW Z tgt lv st h) (kf : ¬ y < x → SW Z (pc + 1 + 3) lv st h) : SW Z pc lv (.long y :: .long x :: st) h := r_lcmp X d0 (r_if_gt X tgt d ht (fun z => kt ((lg_cmp_gt x y).mp z)) (fun z => kf (fun q => z ((lg_cmp_gt x y).mpr q))))
theorem r_lcmp_le (X : mCx Z own cc nL n) {x y : Int64} {off : Int} (tgt : Nat) (d0 : decode cc pc = .ok (.lcmp, 1)) (d : decode cc (pc + 1) = .ok (.ifCond .le off, 3)) (ht : ((pc + 1 : Nat) : Int) + off = (tgt : Int)) (kt : ¬ y < x → SW Z tgt lv st h) (kf : y < x → SW Z (pc + 1 + 3) lv st h) : SW Z pc lv (.long y :: .long x :: st) h := r_lcmp X d0 (r_if_le X tgt d ht (fun z => kt (fun q => z ((lg_cmp_gt x y).mpr q))) (fun z => kf ((lg_cmp_gt x y).mp z)))
theorem r_lcmp_eq (X : mCx Z own cc nL n) {x y : Int64} {off : Int} (tgt : Nat) (d0 : decode cc pc = .ok (.lcmp, 1)) (d : decode cc (pc + 1) = .ok (.ifCond .eq off, 3)) (ht : ((pc + 1 : Nat) : Int) + off = (tgt : Int)) (kt : x = y → SW Z tgt lv st h) (kf : ¬ x = y → SW Z (pc + 1 + 3) lv st h) : SW Z pc lv (.long y :: .long x :: st) h := r_lcmp X d0 (r_if_eq X tgt d ht (fun z => kt ((lg_cmp_eq x y).mp z)) (fun z => kf (fun q => z ((lg_cmp_eq x y).mpr q))))
theorem r_lcmp_ne (X : mCx Z own cc nL n) {x y : Int64} {off : Int} (tgt : Nat) (d0 : decode cc pc = .ok (.lcmp, 1)) (d : decode cc (pc + 1) = .ok (.ifCond .ne off, 3)) (ht : ((pc + 1 : Nat) : Int) + off = (tgt : Int)) (kt : ¬ x = y → SW Z tgt lv st h) (kf : x = y → SW Z (pc + 1 + 3) lv st h) : SW Z pc lv (.long y :: .long x :: st) h := r_lcmp X d0 (r_if_ne X tgt d ht (fun z => kt (fun q => z ((lg_cmp_eq x y).mpr q))) (fun z => kf ((lg_cmp_eq x y).mp z)))
theorem r_get (X : mCx Z own cc nL n) {C ref : String} {T : u_T} {N ci ix : Nat} (hin : ∀ w ∈ u_ws C T N, w ∈ gtbl) (hc : vwCl[ci]? = some (C, T, N)) (k0 : Nat) (hk : k0 < N) (hw : Cond.fieldLink own ix ref (T k0).2.1 (T k0).2.2.1 ∈ gtbl) (href : (T k0).1 = ref) {a : Nat} {fs : List Value} {v : Value} (d : decode cc pc = .ok (.getfield ix, 3)) (he : h a = some (.inr (ci, fs))) (hv : fs[k0]? = some v) (k : SW Z (pc + 3) lv (v :: st) h) : SW Z pc lv (.ref a :: st) h := by
  obtain ⟨G, ⟨p, l, e, R, s, m, args, below, meth, c⟩, ⟨nL', cells, slots⟩, Q, L⟩ := Z
  intro H locs ls hR hS hl
  obtain ⟨q, hq⟩ := hR.get he
  exact va_get X.1 X.2.1 X.2.2.2.2.2.1 hin X.2.2.2.2.1 X.2.2.2.2.2.2.1.1 hR.2.1 q hq hc k0 hk (X.2.2.2.2.2.1 _ hw) (fun _ h9 => by rw [← href]; exact h9) hv d (k H locs ls hR hS hl)
theorem r_getN (X : mCx Z own cc nL n) {C ref host : String} {T : u_T} {N ci ix : Nat} (hin : ∀ w ∈ u_ws C T N, w ∈ gtbl) (hc : vwCl[ci]? = some (C, T, N)) (k0 : Nat) (hk : k0 < N) (hw : Cond.fieldLinkNest own ix ref (T k0).2.1 (T k0).2.2.1 host ∈ ntbl) (href : (T k0).1 = ref) {a : Nat} {fs : List Value} {v : Value} (d : decode cc pc = .ok (.getfield ix, 3)) (he : h a = some (.inr (ci, fs))) (hv : fs[k0]? = some v) (k : SW Z (pc + 3) lv (v :: st) h) : SW Z pc lv (.ref a :: st) h := by
  obtain ⟨G, ⟨p, l, e, R, s, m, args, below, meth, c⟩, ⟨nL', cells, slots⟩, Q, L⟩ := Z
  intro H locs ls hR hS hl
  obtain ⟨q, hq⟩ := hR.get he
  exact va_getN X.1 X.2.1 X.2.2.2.2.2.1 hin X.2.2.2.2.1 X.2.2.2.2.2.2.1.1 hR.2.1 q hq hc k0 hk (va_Nw.use rfl (X.2.2.2.2.2.2.1.2 _ hw)) (fun _ h9 => by rw [← href]; exact h9) hv d (k H locs ls hR hS hl)
theorem r_put (X : mCx Z own cc nL n) {C ref : String} {T : u_T} {N ci ix : Nat} (hin : ∀ w ∈ u_ws C T N, w ∈ gtbl) (ty0 : Nat → FieldType) (hty : ∀ k, k < N → parseFieldDescriptor (T k).2.2.1 = some (ty0 k)) (hnm : ∀ a, a < N → ∀ b, b < N → a ≠ b → (T a).2.1 ≠ (T b).2.1) (hc : vwCl[ci]? = some (C, T, N)) (k0 : Nat) (hk : k0 < N) (hw : Cond.fieldLink own ix ref (T k0).2.1 (T k0).2.2.1 ∈ gtbl) (href : (T k0).1 = ref) (hfin : (T k0).2.2.2 = false) {a : Nat} {fs : List Value} {v : Value} (hn : narrow (ty0 k0) v = v) (hfit : fits (ty0 k0) v = true) (d : decode cc pc = .ok (.putfield ix, 3)) (he : h a = some (.inr (ci, fs))) (hl0 : k0 < fs.length) (k : SW Z (pc + 3) lv st (va_up h a (some (.inr (ci, fs.set k0 v))))) : SW Z pc lv (v :: .ref a :: st) h := by
  obtain ⟨G, ⟨p, l, e, R, s, m, args, below, meth, c⟩, ⟨nL', cells, slots⟩, Q, L⟩ := Z
  intro H locs ls hR hS hl
  obtain ⟨q, hq⟩ := hR.get he
  exact va_put X.1 X.2.1 X.2.2.2.2.2.1 hin ty0 hty hnm X.2.2.2.2.1 X.2.2.2.2.2.2.1.1 hR.2.1 hR.2.2 hS q hq hc k0 hk (X.2.2.2.2.2.1 _ hw) (fun _ h9 => by rw [← href]; exact h9) hfin (hty k0 hk) hn hfit hl0 d (fun H1 locs1 hP hD hS1 => k H1 locs1 ls (hR.set (e := .inr (ci, fs.set k0 v)) he hq hP hD) hS1 hl)
theorem r_putN (X : mCx Z own cc nL n) {C ref host : String} {T : u_T} {N ci ix : Nat} (hin : ∀ w ∈ u_ws C T N, w ∈ gtbl) (ty0 : Nat → FieldType) (hty : ∀ k, k < N → parseFieldDescriptor (T k).2.2.1 = some (ty0 k)) (hnm : ∀ a, a < N → ∀ b, b < N → a ≠ b → (T a).2.1 ≠ (T b).2.1) (hc : vwCl[ci]? = some (C, T, N)) (k0 : Nat) (hk : k0 < N) (hw : Cond.fieldLinkNest own ix ref (T k0).2.1 (T k0).2.2.1 host ∈ ntbl) (href : (T k0).1 = ref) (hfin : (T k0).2.2.2 = false) {a : Nat} {fs : List Value} {v : Value} (hn : narrow (ty0 k0) v = v) (hfit : fits (ty0 k0) v = true) (d : decode cc pc = .ok (.putfield ix, 3)) (he : h a = some (.inr (ci, fs))) (hl0 : k0 < fs.length) (k : SW Z (pc + 3) lv st (va_up h a (some (.inr (ci, fs.set k0 v))))) : SW Z pc lv (v :: .ref a :: st) h := by
  obtain ⟨G, ⟨p, l, e, R, s, m, args, below, meth, c⟩, ⟨nL', cells, slots⟩, Q, L⟩ := Z
  intro H locs ls hR hS hl
  obtain ⟨q, hq⟩ := hR.get he
  exact va_putN X.1 X.2.1 X.2.2.2.2.2.1 hin ty0 hty hnm X.2.2.2.2.1 X.2.2.2.2.2.2.1.1 hR.2.1 hR.2.2 hS q hq hc k0 hk (va_Nw.use rfl (X.2.2.2.2.2.2.1.2 _ hw)) (fun _ h9 => by rw [← href]; exact h9) hfin (hty k0 hk) hn hfit hl0 d (fun H1 locs1 hP hD hS1 => k H1 locs1 ls (hR.set (e := .inr (ci, fs.set k0 v)) he hq hP hD) hS1 hl)
theorem r_iald (X : mCx Z own cc nL n) {a N : Nat} {f : Nat → Int32} {i : Int32} (v : Int32) (d : decode cc pc = .ok (.iaload, 1)) (he : h a = some (.inl (0, N, .inl f))) (hi : vp_in i N) (hv : f i.toNatClampNeg = v) (k : SW Z (pc + 1) lv (.int v :: st) h) : SW Z pc lv (.int i :: .ref a :: st) h := by
  obtain ⟨G, ⟨p, l, e, R, s, m, args, below, meth, c⟩, ⟨nL', cells, slots⟩, Q, L⟩ := Z
  intro H locs ls hR hS hl
  obtain ⟨q, hq⟩ := hR.get he
  subst hv
  exact va_iald X.1 X.2.1 X.2.2.2.2.2.2.1.1 hR.2.1 q 0 hq rfl hi d (k H locs ls hR hS hl)
theorem r_lald (X : mCx Z own cc nL n) {a N : Nat} {f : Nat → Int64} {i : Int32} (v : Int64) (d : decode cc pc = .ok (.laload, 1)) (he : h a = some (.inl (1, N, .inr (.inl f)))) (hi : vp_in i N) (hv : f i.toNatClampNeg = v) (k : SW Z (pc + 1) lv (.long v :: st) h) : SW Z pc lv (.int i :: .ref a :: st) h := by
  obtain ⟨G, ⟨p, l, e, R, s, m, args, below, meth, c⟩, ⟨nL', cells, slots⟩, Q, L⟩ := Z
  intro H locs ls hR hS hl
  obtain ⟨q, hq⟩ := hR.get he
  subst hv
  exact va_lald X.1 X.2.1 X.2.2.2.2.2.2.1.1 hR.2.1 q 1 hq rfl hi d (k H locs ls hR hS hl)
theorem r_zald (X : mCx Z own cc nL n) {a N : Nat} {f : Nat → Int32} {i : Int32} (v : Int32) (d : decode cc pc = .ok (.baload, 1)) (he : h a = some (.inl (2, N, .inl f))) (hi : vp_in i N) (hv : f i.toNatClampNeg = v) (k : SW Z (pc + 1) lv (.int v :: st) h) : SW Z pc lv (.int i :: .ref a :: st) h := by
  obtain ⟨G, ⟨p, l, e, R, s, m, args, below, meth, c⟩, ⟨nL', cells, slots⟩, Q, L⟩ := Z
  intro H locs ls hR hS hl
  obtain ⟨q, hq⟩ := hR.get he
  subst hv
  exact va_zald X.1 X.2.1 X.2.2.2.2.2.2.1.1 hR.2.1 q 2 hq rfl hi d (k H locs ls hR hS hl)
theorem r_iast (X : mCx Z own cc nL n) {a N : Nat} {f : Nat → Int32} {i : Int32} {x : Int32} (d : decode cc pc = .ok (.iastore, 1)) (he : h a = some (.inl (0, N, .inl f))) (hi : vp_in i N) (k : SW Z (pc + 1) lv st (va_up h a (some (.inl (0, N, .inl (upd f i.toNatClampNeg x)))))) : SW Z pc lv (.int x :: .int i :: .ref a :: st) h := by
  obtain ⟨G, ⟨p, l, e, R, s, m, args, below, meth, c⟩, ⟨nL', cells, slots⟩, Q, L⟩ := Z
  intro H locs ls hR hS hl
  obtain ⟨q, hq⟩ := hR.get he
  exact va_iast X.1 X.2.1 X.2.2.2.2.2.2.1.1 hR.2.1 hR.2.2 hS q 0 hq rfl hi d (fun H1 locs1 hP hD hS1 => k H1 locs1 ls (hR.set (e := .inl (0, N, .inl (upd f i.toNatClampNeg x))) he hq hP hD) hS1 hl)
theorem r_last (X : mCx Z own cc nL n) {a N : Nat} {f : Nat → Int64} {i : Int32} {x : Int64} (d : decode cc pc = .ok (.lastore, 1)) (he : h a = some (.inl (1, N, .inr (.inl f)))) (hi : vp_in i N) (k : SW Z (pc + 1) lv st (va_up h a (some (.inl (1, N, .inr (.inl (vp_updL f i.toNatClampNeg x))))))) : SW Z pc lv (.long x :: .int i :: .ref a :: st) h := by
  obtain ⟨G, ⟨p, l, e, R, s, m, args, below, meth, c⟩, ⟨nL', cells, slots⟩, Q, L⟩ := Z
  intro H locs ls hR hS hl
  obtain ⟨q, hq⟩ := hR.get he
  exact va_last X.1 X.2.1 X.2.2.2.2.2.2.1.1 hR.2.1 hR.2.2 hS q 1 hq rfl hi d (fun H1 locs1 hP hD hS1 => k H1 locs1 ls (hR.set (e := .inl (1, N, .inr (.inl (vp_updL f i.toNatClampNeg x)))) he hq hP hD) hS1 hl)
theorem r_alen (X : mCx Z own cc nL n) {a t0 : Nat} {x : vp_A} (v : Int32) (d : decode cc pc = .ok (.arraylength, 1)) (he : h a = some (.inl (t0, x))) (ht : t0 < 5) (hv : Int32.ofNat x.1 = v) (k : SW Z (pc + 1) lv (.int v :: st) h) : SW Z pc lv (.ref a :: st) h := by
  obtain ⟨G, ⟨p, l, e, R, s, m, args, below, meth, c⟩, ⟨nL', cells, slots⟩, Q, L⟩ := Z
  intro H locs ls hR hS hl
  obtain ⟨q, hq⟩ := hR.get he
  have hK := X.2.2.2.2.2.2.1.1
  rcases (show t0 = 0 ∨ t0 = 1 ∨ t0 = 2 ∨ t0 = 3 ∨ t0 = 4 by omega) with rfl | rfl | rfl | rfl | rfl
  · exact va_alen X.1 X.2.1 hK hR.2.1 q 0 hq rfl hv d (k H locs ls hR hS hl)
  · exact va_alen X.1 X.2.1 hK hR.2.1 q 1 hq rfl hv d (k H locs ls hR hS hl)
  · exact va_alen X.1 X.2.1 hK hR.2.1 q 2 hq rfl hv d (k H locs ls hR hS hl)
  · exact va_alen X.1 X.2.1 hK hR.2.1 q 3 hq rfl hv d (k H locs ls hR hS hl)
  · exact va_alen X.1 X.2.1 hK hR.2.1 q 4 hq rfl hv d (k H locs ls hR hS hl)
theorem r_aald3 (X : mCx Z own cc nL n) {a N : Nat} {f : Nat → Option Nat} {i : Int32} (b : Nat) (d : decode cc pc = .ok (.aaload, 1)) (he : h a = some (.inl (3, N, .inr (.inr (.inr (.inr f)))))) (hi : vp_in i N) (hv : f i.toNatClampNeg = some b) (k : SW Z (pc + 1) lv (.ref b :: st) h) : SW Z pc lv (.int i :: .ref a :: st) h := by
  obtain ⟨G, ⟨p, l, e, R, s, m, args, below, meth, c⟩, ⟨nL', cells, slots⟩, Q, L⟩ := Z
  intro H locs ls hR hS hl
  obtain ⟨q, hq⟩ := hR.get he
  refine va_aldq X.1 X.2.1 X.2.2.2.2.2.2.1.1 hR.2.1 q 3 hq rfl hi d ?_
  rw [hv]
  exact k H locs ls hR hS hl
theorem r_aald4 (X : mCx Z own cc nL n) {a N : Nat} {f : Nat → Option Nat} {i : Int32} (b : Nat) (d : decode cc pc = .ok (.aaload, 1)) (he : h a = some (.inl (4, N, .inr (.inr (.inr (.inr f)))))) (hi : vp_in i N) (hv : f i.toNatClampNeg = some b) (k : SW Z (pc + 1) lv (.ref b :: st) h) : SW Z pc lv (.int i :: .ref a :: st) h := by
  obtain ⟨G, ⟨p, l, e, R, s, m, args, below, meth, c⟩, ⟨nL', cells, slots⟩, Q, L⟩ := Z
  intro H locs ls hR hS hl
  obtain ⟨q, hq⟩ := hR.get he
  have hlt : i.toNatClampNeg < N := Nat.not_le.mp fun q => hi (Or.inr q)
  have hK := X.2.2.2.2.2.2.1.1
  refine W.aald (v := va_rf (f i.toNatClampNeg)) (ty := .array .int) X.1 X.2.1 (hR.2.1 q _ hq) ((hK.2 4 (G.2.1 4, .array .int) rfl).1 N (fun j => va_rf (f j))) rfl (fun q => by cases q) (by show ¬ (i < 0 ∨ (arrV _ _ _).slots.size ≤ _); rw [arrV_size]; exact hi) (by show (arrV _ _ _).slots[_]? = _; rw [arrV_read _ _ hlt]) rfl rfl d ?_
  rw [hv]
  exact k H locs ls hR hS hl
theorem r_ireturn (X : mCx Z own cc nL n) {r : Option Value} {h' : mHp} (Y : mEnd Z (some .int) r h') {v : Int32} (d : decode cc pc = .ok (.ireturn, 1)) (e1 : r = some (.int v)) (e2 : h' = h) : SW Z pc lv [.int v] h := by
  obtain ⟨G, ⟨p, l, e, R, s, m, args, below, meth, c⟩, ⟨nL', cells, slots⟩, Q, L⟩ := Z
  obtain ⟨hQ, hr, hk⟩ := Y
  intro H locs ls hR hS hl
  rw [hQ, e1, e2]
  exact W.iret X.1 X.2.1 hr (fun t ht hW => ⟨⟨rfl, by rw [ht]; exact hR⟩, hS.F ht⟩) hS.2.2 d hk
theorem r_lreturn (X : mCx Z own cc nL n) {r : Option Value} {h' : mHp} (Y : mEnd Z (some .long) r h') {v : Int64} (d : decode cc pc = .ok (.lreturn, 1)) (e1 : r = some (.long v)) (e2 : h' = h) : SW Z pc lv [.long v] h := by
  obtain ⟨G, ⟨p, l, e, R, s, m, args, below, meth, c⟩, ⟨nL', cells, slots⟩, Q, L⟩ := Z
  obtain ⟨hQ, hr, hk⟩ := Y
  intro H locs ls hR hS hl
  rw [hQ, e1, e2]
  exact W.lret X.1 X.2.1 hr (fun t ht hW => ⟨⟨rfl, by rw [ht]; exact hR⟩, hS.F ht⟩) hS.2.2 d hk
theorem r_zreturn (X : mCx Z own cc nL n) {r : Option Value} {h' : mHp} (Y : mEnd Z (some .boolean) r h') {v : Int32} (d : decode cc pc = .ok (.ireturn, 1)) (hb : v = 0 ∨ v = 1) (e1 : r = some (.int v)) (e2 : h' = h) : SW Z pc lv [.int v] h := by
  obtain ⟨G, ⟨p, l, e, R, s, m, args, below, meth, c⟩, ⟨nL', cells, slots⟩, Q, L⟩ := Z
  obtain ⟨hQ, hr, hk⟩ := Y
  intro H locs ls hR hS hl
  rw [hQ, e1, e2]
  exact W.zret X.1 X.2.1 hr (by rcases hb with rfl | rfl <;> decide) (fun t ht hW => ⟨⟨rfl, by rw [ht]; exact hR⟩, hS.F ht⟩) hS.2.2 d hk
theorem r_return (X : mCx Z own cc nL n) {r : Option Value} {h' : mHp} (Y : mEnd Z none r h') (d : decode cc pc = .ok (.return_, 1)) (e1 : r = none) (e2 : h' = h) : SW Z pc lv [] h := by
  obtain ⟨G, ⟨p, l, e, R, s, m, args, below, meth, c⟩, ⟨nL', cells, slots⟩, Q, L⟩ := Z
  obtain ⟨hQ, hr, hk⟩ := Y
  intro H locs ls hR hS hl
  rw [hQ, e1, e2]
  exact W.vret X.1 X.2.1 hr (fun t ht hW => ⟨⟨rfl, by rw [ht]; exact hR⟩, hS.F ht⟩) hS.2.2 d hk
theorem Ret.of {G : mG} {y : MethodName} {ret : Option FieldType} {av : List Value} {r : Option Value} {h' : mHp} (lv0 : List (Nat × Value)) (hy : plainName y.cls = true) (hlen : (lg_sl av).length ≤ nL) (hlv : lv_args 0 av = lv0) (body : ∀ Z : mZ, Z.1 = G → mCx Z y.cls cc nL n → mEnd Z ret r h' → SW Z 0 lv0 [] h) : Ret G n (y, cc, nL, ret) av h r h' := by
  intro l L
  refine Met.ofW (cc := cc) (maxL := nL) (ret := ret) hy rfl ?_
  intro p e s m args below meth c s₁ B hml hv
  obtain ⟨rfl, hR, hI⟩ := hv
  have hts := atoms_spec (ws := mws (y, cc, nL, ret)) B.pre
  have hl := lv_entry av (n := nL) hlen
  rw [hlv] at hl
  rw [lg_entry_eq]
  exact body (G, (p, l, e, (headSpec (mws (y, cc, nL, ret)) (rmL n)).room, s, m, av.toArray, below, meth, c), (nL, 0, 0), _, L) rfl ⟨B.exec, B.bytes, hml, rfl, findClass_of_methodNamed B.named, fun w hw => hts w (List.mem_cons_of_mem _ hw), hI, Nat.le_refl _, Nat.le_refl _, Nat.zero_le _, Nat.zero_le _⟩ ⟨rfl, B.returns, B.notSynchronized⟩ s.heap [] _ hR va_S.rf hl
end MROWS
