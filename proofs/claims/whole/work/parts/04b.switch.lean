/-! Switches -/
section MSW
variable {Z : mZ} {own : String} {cc : ByteArray} {nL n pc : Nat} {lv lv' : List (Nat × Value)} {st : List Value} {h : mHp}
theorem r_tsin (X : mCx Z own cc nL n) {dflt lo hi : Int} {offs : Array Int} {len : Nat} {x : Int32} {off : Int} (tgt : Nat) (d : decode cc pc = .ok (.tableswitch dflt lo hi offs, len)) (h1 : ¬ x.toInt < lo) (h2 : ¬ hi < x.toInt) (ho : offs[(x.toInt - lo).toNat]? = some off) (ht : (pc : Int) + off = (tgt : Int)) (k : SW Z tgt lv st h) : SW Z pc lv (.int x :: st) h := by
  obtain ⟨G, ⟨p, l, e, R, s, m, args, below, meth, c⟩, ⟨nL', cells, slots⟩, Q, L⟩ := Z
  exact fun H locs ls hR hS hl => lv_tableIn X.1 X.2.1 d h1 h2 ho ht (k H locs ls hR hS hl)
theorem r_tsout (X : mCx Z own cc nL n) {dflt lo hi : Int} {offs : Array Int} {len : Nat} {x : Int32} (tgt : Nat) (d : decode cc pc = .ok (.tableswitch dflt lo hi offs, len)) (h1 : x.toInt < lo ∨ hi < x.toInt) (ht : (pc : Int) + dflt = (tgt : Int)) (k : SW Z tgt lv st h) : SW Z pc lv (.int x :: st) h := by
  obtain ⟨G, ⟨p, l, e, R, s, m, args, below, meth, c⟩, ⟨nL', cells, slots⟩, Q, L⟩ := Z
  exact fun H locs ls hR hS hl => lv_tableOut X.1 X.2.1 d h1 ht (k H locs ls hR hS hl)
theorem r_lsw (X : mCx Z own cc nL n) {dflt : Int} {ps : Array (Int × Int)} {len : Nat} {x : Int32} {off : Int} (tgt : Nat) (d : decode cc pc = .ok (.lookupswitch dflt ps, len)) (hp : (ps.toList.zip (ps.toList.drop 1)).all (fun (a, next) => a.1 < next.1) = true) (ho : Op.lookupswitch.offset ps.toList dflt x.toInt = off) (ht : (pc : Int) + off = (tgt : Int)) (k : SW Z tgt lv st h) : SW Z pc lv (.int x :: st) h := by
  obtain ⟨G, ⟨p, l, e, R, s, m, args, below, meth, c⟩, ⟨nL', cells, slots⟩, Q, L⟩ := Z
  exact fun H locs ls hR hS hl => lv_lookup X.1 X.2.1 d hp ho ht (k H locs ls hR hS hl)
theorem r_aald3n (X : mCx Z own cc nL n) {a N k0 : Nat} {f : Nat → Option Nat} (b : Nat) (d : decode cc pc = .ok (.aaload, 1)) (he : h a = some (.inl (3, N, .inr (.inr (.inr (.inr f)))))) (hi : k0 < N) (hN : N < 2 ^ 31) (hv : f k0 = some b) (k : SW Z (pc + 1) lv (.ref b :: st) h) : SW Z pc lv (.int (nI k0) :: .ref a :: st) h := r_aald3 X b d he (vp_in_nI hi hN) (by rw [nI_clamp (by omega)]; exact hv) k
theorem r_aald4n (X : mCx Z own cc nL n) {a N k0 : Nat} {f : Nat → Option Nat} (b : Nat) (d : decode cc pc = .ok (.aaload, 1)) (he : h a = some (.inl (4, N, .inr (.inr (.inr (.inr f)))))) (hi : k0 < N) (hN : N < 2 ^ 31) (hv : f k0 = some b) (k : SW Z (pc + 1) lv (.ref b :: st) h) : SW Z pc lv (.int (nI k0) :: .ref a :: st) h := r_aald4 X b d he (vp_in_nI hi hN) (by rw [nI_clamp (by omega)]; exact hv) k
theorem i32_ne {x v : Int32} (h : ¬ x = v) : ¬ x.toInt = v.toInt := fun q => h (Int32.toInt_inj.mp q)
end MSW
theorem updN (f : Nat → Nat) (k u : Nat) : upd (fun j => nI (f j)) k (nI u) = fun j => nI (va_up f k u j) := by
  funext j
  unfold upd va_up
  by_cases h : j = k
  · rw [if_pos h, if_pos h]
  · rw [if_neg h, if_neg h]
