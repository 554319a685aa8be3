def kAs (k : Nat) : Int32 := if k = 0 then 1 else if k = 1 then 3 else if k = 2 then 7 else if k = 3 then 11 else if k = 4 then 17 else 49
def mSt (G : mG) (t : Nat) (U : State) : Prop := va_Z "UnitHours" "KINDS_IT_IS" "[I" (.ref t) (fun q => G.2.2 ≤ q) U U.heap ∧ va_T .int t 6 (fun j => .int (kAs j)) (fun q => G.2.2 ≤ q) U U.heap
def mPt (G : mG) (t : Nat) (L : List Nat) (av : List Value) (h : mHp) : Array Value → State → Prop := va_Pc av (fun U => mR G L h U.heap ∧ mI G U ∧ mSt G t U)
def RetT (G : mG) (t n : Nat) (M : mM) (av : List Value) (h : mHp) (r : Option Value) (h' : mHp) : Prop := ∀ (l : Launch) (L : List Nat), Met l M.1 (mws M) (rmL n) (mPt G t L av h) (mQ G L r h') 0 0 (fun q => G.2.2 ≤ q)
def mCt (Z : mZ) (t : Nat) : Prop := match Z with
  | (G, (_, _, _, _, s, _, _, _, _, _), _, _, _) => mSt G t s
section TROWS
variable {Z : mZ} {own : String} {cc : ByteArray} {nL n pc : Nat} {lv lv' : List (Nat × Value)} {st : List Value} {h : mHp} {t : Nat}
theorem RetT.of {G : mG} {y : MethodName} {ret : Option FieldType} {av : List Value} {r : Option Value} {h' : mHp} (lv0 : List (Nat × Value)) (hy : plainName y.cls = true) (hlen : (lg_sl av).length ≤ nL) (hlv : lv_args 0 av = lv0) (body : ∀ Z : mZ, Z.1 = G → mCx Z y.cls cc nL n → mEnd Z ret r h' → mCt Z t → SW Z 0 lv0 [] h) : RetT G t n (y, cc, nL, ret) av h r h' := by
  intro l L
  refine Met.ofW (cc := cc) (maxL := nL) (ret := ret) hy rfl ?_
  intro p e s m args below meth c s₁ B hml hv
  obtain ⟨rfl, hR, hI, hT⟩ := hv
  have hts := atoms_spec (ws := mws (y, cc, nL, ret)) B.pre
  have hl := lv_entry av (n := nL) hlen
  rw [hlv] at hl
  rw [lg_entry_eq]
  exact body (G, (p, l, e, (headSpec (mws (y, cc, nL, ret)) (rmL n)).room, s, m, av.toArray, below, meth, c), (nL, 0, 0), _, L) rfl ⟨B.exec, B.bytes, hml, rfl, findClass_of_methodNamed B.named, fun w hw => hts w (List.mem_cons_of_mem _ hw), hI, Nat.le_refl _, Nat.le_refl _, Nat.zero_le _, Nat.zero_le _⟩ ⟨rfl, B.returns, B.notSynchronized⟩ hT s.heap [] _ hR va_S.rf hl
theorem r_gets (X : mCx Z RX7 cc nL n) (T : mCt Z t) (d : decode cc pc = .ok (.getstatic 331, 3)) (k : SW Z (pc + 3) lv (.ref t :: st) h) : SW Z pc lv st h := by
  obtain ⟨G, ⟨p, l, e, R, s, m, args, below, meth, c⟩, ⟨nL', cells, slots⟩, Q, L⟩ := Z
  have hl : (Cond.fieldLink RX7 331 "UnitHours" "KINDS_IT_IS" "[I") ∈ gtbl := wG 912 (by decide +kernel) (by decide +kernel)
  exact fun H locs ls hR hS hv => va_gets X.1 X.2.1 (C := "UnitHours") (ref := "UnitHours") T.1 hS X.2.2.2.2.1 (X.2.2.2.2.2.1 _ hl) (fun _ z => z) d (k H locs ls hR hS hv)
theorem r_sld (X : mCx Z own cc nL n) (T : mCt Z t) {i : Nat} (hi : i < 6) (d : decode cc pc = .ok (.iaload, 1)) (k : SW Z (pc + 1) lv (.int (kAs i) :: st) h) : SW Z pc lv (.int (nI i) :: .ref t :: st) h := by
  obtain ⟨G, ⟨p, l, e, R, s, m, args, below, meth, c⟩, ⟨nL', cells, slots⟩, Q, L⟩ := Z
  exact fun H locs ls hR hS hv => va_ti X.1 X.2.1 T.2 hS (vp_in_nI hi (by decide)) (v := .int (kAs i)) (by show Value.int (kAs (nI i).toNatClampNeg) = _; rw [nI_clamp (by omega)]) d (k H locs ls hR hS hv)
end TROWS
def f_UH_as (fin : Int32) (U : Nat) (kin : Nat → Int32) (u kd : Int32) : Int32 × Int32 := (if (f_UH_noUnit U u) = (0 : Int32) then (if kd < (0 : Int32) then ((-1000001 : Int32), fin) else (if (5 : Int32) < kd then ((-1000001 : Int32), fin) else (if ((kAs (kin u.toNatClampNeg).toNatClampNeg) >>> (kd &&& 31)) &&& 1 = (0 : Int32) then f_UH_found 3 else f_UH_well (nI u.toNatClampNeg)))) else ((-1000001 : Int32), fin))
set_option maxRecDepth 20000 in
set_option maxHeartbeats 4000000 in
theorem c_UH_as {G : mG} {t : Nat} {h : mHp} {x : Nat} {fin : Int32} {lf : Int32} {kn : Int64} {ik : Int32} {H : Nat} {U : Nat} {res : Int32} {dem kin low hig pri sta ups dow onn : Nat → Int32} {ord : Nat → Nat} {flo sro sco : Nat → Int32} {u kd : Int32} (hw_d : isV h (x + 15) (dayL (x + 15) H U res dem kin low hig pri sta ups dow onn ord flo sro sco)) (dj_d_x : x + 15 + 14 ≤ x ∨ x + 1 ≤ x + 15) (hU : U ≤ 4) (hk5 : ∀ j, j < U → ∃ q, q < 6 ∧ kin j = nI q) : RetT G t 1 mX7_as [.ref x, .int u, .int kd] (ov h x (uhL x fin lf kn ik)) (some (.int (f_UH_as fin U kin u kd).1)) (ov h x (uhL x (f_UH_as fin U kin u kd).2 lf kn ik)) := by
  generalize hf : f_UH_as fin U kin u kd = R
  unfold f_UH_as at hf
  refine RetT.of [(0, .ref x), (1, .int u), (2, .int kd)] (by decide) (Nat.le_of_ble_eq_true rfl) rfl ?_
  rintro Z rfl X Y T
  have hv_x : isV (ov h x (uhL x fin lf kn ik)) x (uhL x fin lf kn ik) := ov_isV
  have hv_d : isV (ov h x (uhL x fin lf kn ik)) (x + 15) (dayL (x + 15) H U res dem kin low hig pri sta ups dow onn ord flo sro sco) := isV_ov dj_d_x (hw_d)
  refine r_aload_n X 0 dX7_as_0 rfl ?_
  refine r_iload_n X 1 dX7_as_1 rfl ?_
  refine cl_X7_148 X (by decide) dX7_as_2 (Nat.le_of_ble_eq_true rfl) (hv_x 0 _ rfl) (c_UH_noUnit hv_x hv_d ) ?_
  refine r_if_ne X 17 dX7_as_5 rfl (fun cu => ?_) (fun cu => ?_)
  · rw [if_neg cu] at hf
    refine r_ldc X dX7_as_17 kk_X7_69 ?_
    try subst hf
    exact r_ireturn X Y dX7_as_19 rfl rfl
  · rw [if_pos cu] at hf
    obtain ⟨k, hk, rfl⟩ := noUnit_nat hU cu
    try simp only [nI_clamp (show k < 2 ^ 31 by omega)] at hf
    refine r_iload_n X 2 dX7_as_8 rfl ?_
    refine r_if_lt X 17 dX7_as_9 rfl (fun c1 => ?_) (fun c1 => ?_)
    · rw [if_pos c1] at hf
      refine r_ldc X dX7_as_17 kk_X7_69 ?_
      try subst hf
      exact r_ireturn X Y dX7_as_19 rfl rfl
    · rw [if_neg c1] at hf
      refine r_iload_n X 2 dX7_as_12 rfl ?_
      refine r_iconst X (5 : Int32) dX7_as_13 (by decide) ?_
      refine r_icmp_le X 20 dX7_as_14 rfl (fun c2 => ?_) (fun c2 => ?_)
      · rw [if_neg c2] at hf
        refine r_gets X T dX7_as_20 ?_
        refine r_aload_n X 0 dX7_as_23 rfl ?_
        refine gf_X7_26 X dX7_as_24 (hv_x 0 _ rfl) rfl ?_
        refine gf_X7_194 X dX7_as_27 (hv_d 0 _ rfl) rfl ?_
        refine r_iload_n X 1 dX7_as_30 rfl ?_
        refine r_ialdn X (k0 := k) dX7_as_31 (hv_d 2 _ rfl) (by omega) (by decide) ?_
        obtain ⟨q, hq, eq⟩ := hk5 k hk
        rw [eq, nI_clamp (show q < 2 ^ 31 by omega)] at hf
        rw [eq]
        refine r_sld X T hq dX7_as_32 ?_
        refine r_iload_n X 2 dX7_as_33 rfl ?_
        refine r_ishr X dX7_as_34 ?_
        refine r_iconst X (1 : Int32) dX7_as_35 (by decide) ?_
        refine r_iand X dX7_as_36 ?_
        refine r_if_ne X 46 dX7_as_37 rfl (fun c3 => ?_) (fun c3 => ?_)
        · rw [if_neg c3] at hf
          refine r_aload_n X 0 dX7_as_46 rfl ?_
          refine r_iload_n X 1 dX7_as_47 rfl ?_
          refine cl_X7_78 X (by decide) dX7_as_48 (Nat.le_of_ble_eq_true rfl) (hv_x 0 _ rfl) (c_UH_well  ) ?_
          subst hf
          exact r_ireturn X Y dX7_as_51 rfl rfl
        · rw [if_pos c3] at hf
          refine r_aload_n X 0 dX7_as_40 rfl ?_
          refine r_iconst X (3 : Int32) dX7_as_41 (by decide) ?_
          refine cl_X7_70 X (by decide) dX7_as_42 (Nat.le_of_ble_eq_true rfl) (hv_x 0 _ rfl) (c_UH_found  ) ?_
          subst hf
          exact r_ireturn X Y dX7_as_45 rfl rfl
      · rw [if_pos c2] at hf
        refine r_ldc X dX7_as_17 kk_X7_69 ?_
        try subst hf
        exact r_ireturn X Y dX7_as_19 rfl rfl
