theorem stateOf_nat : ∀ U, f_Model_stateOf U = nI (6 ^ U) := by
  intro U
  have key : ∀ k, f_Model_stateOf_L4 (1 : Int32) k = nI (6 ^ k) := by
    intro k
    induction k with
    | zero => rfl
    | succ k ih =>
      show f_Model_stateOf_L4s k (f_Model_stateOf_L4 1 k) = _
      rw [ih]
      show nI (6 ^ k) * nI 6 = _
      rw [pk_mul, Nat.pow_succ]
  exact key U
theorem c_Model_stateOfN {G : mG} {h : mHp} {w : Nat} {f : Nat → Int32} {U : Nat} (hv_w : isV h w (ar41 w f)) (h0 : f 0 = nI U) (hU : U ≤ 4) : Ret G 0 mX8_stateOf [.ref w] h (some (.int (nI (6 ^ U)))) h := by
  rw [← stateOf_nat]
  exact c_Model_stateOf hv_w h0 hU
theorem down_ge {y : Nat} (h : ¬ nI y - (1 : Int32) < 0) : 0 < y := by
  rcases Nat.eq_zero_or_pos y with e | e
  · subst e
    exact absurd (by decide) h
  · exact e
theorem pow2_4 {u : Nat} (h : u ≤ 4) : 2 ^ u ≤ 16 := Nat.pow_le_pow_right (n := 2) (by decide) h

def f_Model_finds_L20s (Hh : Nat) (k20 : Nat) (lst : Nat → Int32) : (Nat → Int32) := upd lst ((1296 * Hh) + k20) (0 : Int32)
def f_Model_finds_L20 (Hh : Nat) (lst : Nat → Int32) : Nat → (Nat → Int32)
  | 0 => lst
  | k20 + 1 => f_Model_finds_L20s Hh k20 (f_Model_finds_L20 Hh lst k20)
def f_Model_finds_L76 (W : Nat → Nat → Int32) (costs : Nat → Int32) (lst : Nat → Int32) (wi : Nat) (U : Nat) (x2 : Int32) (n4 : Nat) (n5 : Nat) (n6 : Nat) : Nat → Int32 → Nat → Int32 × Nat
  | 0, y7, y8 => (y7, y8)
  | n + 1, y7, y8 => (if (nI y8) < (nI n4) then (if (0 : Int32) < (nI n5) then f_Model_finds_L76 W costs lst wi U x2 n4 n5 n6 n (if (f_Model_costFrom W costs lst n5 n6 (nI y8) x2 wi U) < y7 then (f_Model_costFrom W costs lst n5 n6 (nI y8) x2 wi U) else y7) (y8 + 1) else (if (nI n6) = (0 : Int32) then f_Model_finds_L76 W costs lst wi U x2 n4 n5 n6 n (if (f_Model_costFrom W costs lst n5 n6 (nI y8) x2 wi U) < y7 then (f_Model_costFrom W costs lst n5 n6 (nI y8) x2 wi U) else y7) (y8 + 1) else (y7, y8))) else (y7, y8))
def f_Model_finds_L63s (W : Nat → Nat → Int32) (costs : Nat → Int32) (wi : Nat) (U : Nat) (x2 : Int32) (n4 : Nat) (n5 : Nat) (k63 : Nat) (lst : Nat → Int32) : (Nat → Int32) := (lt_ (f_Model_finds_L76 W costs lst wi U x2 n4 n5 k63 (2 ^ U + 1) (100000000 : Int32) 0) (fun q2 => upd lst ((1296 * n5) + k63) q2.1))
def f_Model_finds_L63 (W : Nat → Nat → Int32) (costs : Nat → Int32) (wi : Nat) (U : Nat) (x2 : Int32) (n4 : Nat) (n5 : Nat) (lst : Nat → Int32) : Nat → (Nat → Int32)
  | 0 => lst
  | k63 + 1 => f_Model_finds_L63s W costs wi U x2 n4 n5 k63 (f_Model_finds_L63 W costs wi U x2 n4 n5 lst k63)
def f_Model_finds_L55 (W : Nat → Nat → Int32) (costs : Nat → Int32) (wi : Nat) (U : Nat) (x2 : Int32) (n3 : Nat) (n4 : Nat) : Nat → Nat → (Nat → Int32) → Nat × (Nat → Int32)
  | 0, y5, lstv => (y5, lstv)
  | n + 1, y5, lstv => (if (nI y5 - (1 : Int32)) < (0 : Int32) then (y5, lstv) else f_Model_finds_L55 W costs wi U x2 n3 n4 n (y5 - 1) (f_Model_finds_L63 W costs wi U x2 n4 (y5 - 1) lstv n3))
def f_Model_finds_L193 (W : Nat → Nat → Int32) (costs : Nat → Int32) (lst : Nat → Int32) (wi : Nat) (U : Nat) (x2 : Int32) (n5 : Nat) (n6 : Nat) : Nat → Nat → Nat
  | 0, y7 => y7
  | n + 1, y7 => (if (f_Model_costFrom W costs lst n6 n5 (nI y7) x2 wi U) = (lst ((1296 * n6) + n5)) then y7 else f_Model_finds_L193 W costs lst wi U x2 n5 n6 n (y7 + 1))
def f_Model_finds_L173 (W : Nat → Nat → Int32) (costs : Nat → Int32) (lst : Nat → Int32) (bst : Int32) (wi : Nat) (U : Nat) (Hh : Nat) (x2 : Int32) : Nat → Nat → Nat → (Nat → Int32) → Nat × Nat × (Nat → Int32)
  | 0, y5, y6, setsv => (y5, y6, setsv)
  | n + 1, y5, y6, setsv => (if (nI y6) < (nI Hh) then (if bst < (100000000 : Int32) then f_Model_finds_L173 W costs lst bst wi U Hh x2 n ((f_Model_nextOf (W wi) y5 (nI (f_Model_finds_L193 W costs lst wi U x2 y5 y6 (2 ^ U + 1) 0)) x2 U).toNatClampNeg) (y6 + 1) (upd setsv y6 (nI (f_Model_finds_L193 W costs lst wi U x2 y5 y6 (2 ^ U + 1) 0))) else (y5, y6, setsv)) else (y5, y6, setsv))
theorem ne_of_lt32 {a b : Int32} (h : a < b) : ¬ a = b := fun e => by
  rw [e, Int32.lt_iff_toInt_lt] at h
  omega
theorem cf_congr {W : Nat → Nat → Int32} {costs lst lst' : Nat → Int32} {hr s : Nat} {on lost : Int32} {wi U : Nat} (h : ∀ j, 1296 * (hr + 1) ≤ j → lst j = lst' j) : f_Model_costFrom W costs lst hr s on lost wi U = f_Model_costFrom W costs lst' hr s on lost wi U := by
  unfold f_Model_costFrom
  cases f_Model_costFrom_L18 W wi U on lost (U + 1) 0 0 1 1 s 0 with
  | inr r => rfl
  | inl p =>
    obtain ⟨a, b, c, d, e, f⟩ := p
    dsimp only
    rw [h (1296 * (hr + 1) + a) (Nat.le_add_right _ _)]
theorem ex_lt {y N : Nat} {A : Nat → Int32} {B : Int32} (h : ∃ o, y ≤ o ∧ o < N ∧ A o = B) : y < N := by
  obtain ⟨o, h1, h2, -⟩ := h
  omega
theorem fd_back {y N : Nat} {A : Nat → Int32} {B : Int32} (h : ∃ o, y ≤ o ∧ o < N ∧ A o = B) (c : ¬ A y = B) : ∃ o, y + 1 ≤ o ∧ o < N ∧ A o = B := by
  obtain ⟨o, h1, h2, h3⟩ := h
  refine ⟨o, ?_, h2, h3⟩
  rcases Nat.lt_or_ge y o with q | q
  · exact q
  · exact absurd (show A y = B by rw [show y = o by omega]; exact h3) c
theorem fd_L76 {W : Nat → Nat → Int32} {costs lst : Nat → Int32} {wi U : Nat} {x2 : Int32} {n4 n5 n6 : Nat} (h4 : n4 < 2 ^ 31) : ∀ (n : Nat) (y7 : Int32) (y8 : Nat), y8 ≤ n4 → (f_Model_finds_L76 W costs lst wi U x2 n4 n5 n6 n y7 y8).1 = y7 ∨ ∃ o, o < n4 ∧ (f_Model_finds_L76 W costs lst wi U x2 n4 n5 n6 n y7 y8).1 = f_Model_costFrom W costs lst n5 n6 (nI o) x2 wi U := by
  intro n
  induction n with
  | zero => intro y7 y8 _; exact Or.inl rfl
  | succ n ih =>
    intro y7 y8 h8
    rw [f_Model_finds_L76]
    have key : y8 < n4 → ((f_Model_finds_L76 W costs lst wi U x2 n4 n5 n6 n (if f_Model_costFrom W costs lst n5 n6 (nI y8) x2 wi U < y7 then f_Model_costFrom W costs lst n5 n6 (nI y8) x2 wi U else y7) (y8 + 1)).1 = y7 ∨ ∃ o, o < n4 ∧ (f_Model_finds_L76 W costs lst wi U x2 n4 n5 n6 n (if f_Model_costFrom W costs lst n5 n6 (nI y8) x2 wi U < y7 then f_Model_costFrom W costs lst n5 n6 (nI y8) x2 wi U else y7) (y8 + 1)).1 = f_Model_costFrom W costs lst n5 n6 (nI o) x2 wi U) := by
      intro hlt
      by_cases c : f_Model_costFrom W costs lst n5 n6 (nI y8) x2 wi U < y7
      · rw [if_pos c]
        rcases ih (f_Model_costFrom W costs lst n5 n6 (nI y8) x2 wi U) (y8 + 1) hlt with h | h
        · exact Or.inr ⟨y8, hlt, h⟩
        · exact Or.inr h
      · rw [if_neg c]
        exact ih y7 (y8 + 1) hlt
    by_cases c : nI y8 < nI n4
    · rw [if_pos c]
      have hlt := nI_ltX c (by omega) h4
      by_cases c2 : (0 : Int32) < nI n5
      · rw [if_pos c2]; exact key hlt
      · rw [if_neg c2]
        by_cases c3 : nI n6 = (0 : Int32)
        · rw [if_pos c3]; exact key hlt
        · rw [if_neg c3]; exact Or.inl rfl
    · rw [if_neg c]; exact Or.inl rfl
theorem fd_L63 {W : Nat → Nat → Int32} {costs lst : Nat → Int32} {wi U : Nat} {x2 : Int32} {n4 n5 : Nat} (h4 : n4 < 2 ^ 31) : ∀ k, k ≤ 1296 → (∀ j, j < 1296 * n5 ∨ 1296 * n5 + k ≤ j → f_Model_finds_L63 W costs wi U x2 n4 n5 lst k j = lst j) ∧ ∀ s, s < k → ¬ f_Model_finds_L63 W costs wi U x2 n4 n5 lst k (1296 * n5 + s) = 100000000 → ∃ o, o < n4 ∧ f_Model_finds_L63 W costs wi U x2 n4 n5 lst k (1296 * n5 + s) = f_Model_costFrom W costs lst n5 s (nI o) x2 wi U := by
  intro k
  induction k with
  | zero => intro _; exact ⟨fun j _ => rfl, fun s h => absurd h (Nat.not_lt_zero _)⟩
  | succ k ih =>
    intro hk
    have ih := ih (by omega)
    have e : f_Model_finds_L63 W costs wi U x2 n4 n5 lst (k + 1) = upd (f_Model_finds_L63 W costs wi U x2 n4 n5 lst k) (1296 * n5 + k) (f_Model_finds_L76 W costs (f_Model_finds_L63 W costs wi U x2 n4 n5 lst k) wi U x2 n4 n5 k (2 ^ U + 1) 100000000 0).1 := rfl
    refine ⟨fun j hj => ?_, fun s hs hn => ?_⟩
    · rw [e, pk_un (by omega)]
      exact ih.1 j (by omega)
    · rcases Nat.lt_or_ge s k with q | q
      · rw [e, pk_un (by omega)] at hn ⊢
        exact ih.2 s q hn
      · have hs2 : s = k := by omega
        subst hs2
        rw [e, pk_us] at hn ⊢
        rcases fd_L76 (W := W) (costs := costs) (lst := f_Model_finds_L63 W costs wi U x2 n4 n5 lst s) (wi := wi) (U := U) (x2 := x2) (n5 := n5) (n6 := s) h4 (2 ^ U + 1) 100000000 0 (Nat.zero_le _) with h | ⟨o, ho, h⟩
        · exact absurd h hn
        · exact ⟨o, ho, h.trans (cf_congr (fun j hj => ih.1 j (Or.inr (by omega))))⟩
theorem fd_L55 {W : Nat → Nat → Int32} {costs : Nat → Int32} {wi U : Nat} {x2 : Int32} {n3 n4 : Nat} (h4 : n4 < 2 ^ 31) (h3 : n3 ≤ 1296) : ∀ (n y : Nat) (lst : Nat → Int32), y < n → y < 2 ^ 31 → (∀ j, 1296 * y ≤ j → (f_Model_finds_L55 W costs wi U x2 n3 n4 n y lst).2 j = lst j) ∧ ∀ hh s, hh < y → s < n3 → ¬ (f_Model_finds_L55 W costs wi U x2 n3 n4 n y lst).2 (1296 * hh + s) = 100000000 → ∃ o, o < n4 ∧ (f_Model_finds_L55 W costs wi U x2 n3 n4 n y lst).2 (1296 * hh + s) = f_Model_costFrom W costs (f_Model_finds_L55 W costs wi U x2 n3 n4 n y lst).2 hh s (nI o) x2 wi U := by
  intro n
  induction n with
  | zero => intro y lst h; exact absurd h (Nat.not_lt_zero _)
  | succ n ih =>
    intro y lst hy hb
    rw [f_Model_finds_L55]
    by_cases c : nI y - (1 : Int32) < 0
    · rw [if_pos c]
      have hy0 : y = 0 := by
        rcases Nat.eq_zero_or_pos y with z | z
        · exact z
        · exact absurd c (by rw [show nI y - (1 : Int32) = nI (y - 1) from pk_sub (b := 1) (by omega)]; exact nI_pos (by omega))
      exact ⟨fun j _ => rfl, fun hh s a => absurd a (by omega)⟩
    · rw [if_neg c]
      have hp := down_ge c
      have e := ih (y - 1) (f_Model_finds_L63 W costs wi U x2 n4 (y - 1) lst n3) (by omega) (by omega)
      have r := fd_L63 (W := W) (costs := costs) (lst := lst) (wi := wi) (U := U) (x2 := x2) (n5 := y - 1) h4 n3 h3
      refine ⟨fun j hj => (e.1 j (by omega)).trans (r.1 j (Or.inr (by omega))), fun hh s a b d => ?_⟩
      rcases Nat.lt_or_ge hh (y - 1) with q | q
      · exact e.2 hh s q b d
      · have hq : hh = y - 1 := by omega
        subst hq
        have v := e.1 (1296 * (y - 1) + s) (by omega)
        rw [v] at d
        obtain ⟨o, ho, hc⟩ := r.2 s b d
        refine ⟨o, ho, v.trans (hc.trans (cf_congr (fun j hj => ?_)))⟩
        rw [e.1 j (by omega), r.1 j (Or.inr (by omega))]
theorem fd_ex {W : Nat → Nat → Int32} {costs L0 : Nat → Int32} {wi U : Nat} {x2 : Int32} {n3 n4 Hh : Nat} {q : Nat × (Nat → Int32)} (e : q = f_Model_finds_L55 W costs wi U x2 n3 n4 (Hh + 1) Hh L0) (h4 : n4 < 2 ^ 31) (h3 : n3 ≤ 1296) (hH : Hh < 2 ^ 31) {y6 y5 : Nat} (hh : y6 < Hh) (h5 : y5 < n3) (hn : ¬ q.2 ((1296 * y6) + y5) = 100000000) : ∃ o, 0 ≤ o ∧ o < n4 ∧ f_Model_costFrom W costs q.2 y6 y5 (nI o) x2 wi U = q.2 ((1296 * y6) + y5) := by
  subst e
  obtain ⟨o, ho, hc⟩ := (fd_L55 h4 h3 (Hh + 1) Hh L0 (by omega) hH).2 y6 y5 hh h5 hn
  exact ⟨o, Nat.zero_le _, ho, hc.symm⟩
theorem fd_find {W : Nat → Nat → Int32} {costs lst : Nat → Int32} {wi U : Nat} {x2 : Int32} {n5 n6 N : Nat} : ∀ (n y : Nat), (∃ o, y ≤ o ∧ o < N ∧ f_Model_costFrom W costs lst n6 n5 (nI o) x2 wi U = lst ((1296 * n6) + n5)) → N - y < n → f_Model_costFrom W costs lst n6 n5 (nI (f_Model_finds_L193 W costs lst wi U x2 n5 n6 n y)) x2 wi U = lst ((1296 * n6) + n5) := by
  intro n
  induction n with
  | zero => intro y _ h; exact absurd h (Nat.not_lt_zero _)
  | succ n ih =>
    intro y h hn
    rw [f_Model_finds_L193]
    by_cases c : f_Model_costFrom W costs lst n6 n5 (nI y) x2 wi U = lst ((1296 * n6) + n5)
    · rw [if_pos c]; exact c
    · rw [if_neg c]
      have := ex_lt h
      exact ih (y + 1) (fd_back (A := fun o => f_Model_costFrom W costs lst n6 n5 (nI o) x2 wi U) h c) (by omega)
theorem fd_pair {W : Nat → Nat → Int32} {wi U : Nat} {on lost : Int32} (hU : U ≤ 4) : ∀ (n y6 y7 y8 y9 y10 y11 : Nat), U - y11 < n → y11 ≤ U → y8 = 6 ^ y11 → y6 < 6 ^ y11 → (∀ r, f_Model_costFrom_L18 W wi U on lost n y6 y7 y8 y9 y10 y11 = .inr r → r = 100000000) ∧ (∀ a b c d e f, f_Model_costFrom_L18 W wi U on lost n y6 y7 y8 y9 y10 y11 = .inl (a, b, c, d, e, f) → a < 6 ^ U ∧ (f_Model_nextOf_L12 (W wi) U on lost n (nI y6) y8 y10 y11).1 = nI a) := by
  intro n
  induction n with
  | zero => intro _ _ _ _ _ _ h; exact absurd h (Nat.not_lt_zero _)
  | succ n ih =>
    intro y6 y7 y8 y9 y10 y11 hn h11 h8 h6
    rw [f_Model_costFrom_L18, f_Model_nextOf_L12]
    by_cases c : nI y11 < nI U
    · rw [if_pos c, if_pos c]
      have hlt := nI_ltX c (by omega) (by omega)
      by_cases g : f_Model_goes (W wi) y11 (y10 % 6) (f_Model_has on (nI y11)) lost = -1000000
      · rw [if_pos g]
        exact ⟨fun r h => (by cases h; rfl), fun _ _ _ _ _ _ h => (by cases h)⟩
      · rw [if_neg g]
        obtain ⟨gg, hg, eg⟩ := goes_nat (show y10 % 6 ≤ 5 by omega) g
        rw [eg, nI_clamp (by omega), pk_mul, nI_add]
        refine ih _ _ _ _ _ _ (by omega) hlt (by rw [h8, Nat.pow_succ]) ?_
        rw [Nat.pow_succ]
        have h7 : y8 * gg ≤ y8 * 5 := Nat.mul_le_mul_left _ hg
        omega
    · rw [if_neg c, if_neg c]
      have hge : U ≤ y11 := Nat.le_of_not_lt (fun q => c (nI_lt q (by omega)))
      have hq : y11 = U := by omega
      subst hq
      exact ⟨fun r h => (by cases h), fun a b c d e f h => (by cases h; exact ⟨h6, rfl⟩)⟩
theorem fd_next {W : Nat → Nat → Int32} {costs T : Nat → Int32} {hr s : Nat} {on lost : Int32} {wi U : Nat} (hU : U ≤ 4) (hc : f_Model_costFrom W costs T hr s on lost wi U = T ((1296 * hr) + s)) (hn : ¬ T ((1296 * hr) + s) = 100000000) : ∃ g, (g < 6 ^ U ∧ ¬ T ((1296 * (hr + 1)) + g) = 100000000) ∧ f_Model_nextOf (W wi) s on lost U = nI g := by
  rw [← hc] at hn
  have key := fd_pair (W := W) (wi := wi) (on := on) (lost := lost) hU (U + 1) 0 0 1 1 s 0 (by omega) (Nat.zero_le _) rfl (by decide)
  unfold f_Model_costFrom at hn
  cases hX : f_Model_costFrom_L18 W wi U on lost (U + 1) 0 0 1 1 s 0 with
  | inr r => rw [hX] at hn; exact absurd (key.1 r hX) hn
  | inl p =>
    obtain ⟨a, b, c, d, e, f⟩ := p
    rw [hX] at hn
    dsimp only at hn
    have k2 := key.2 a b c d e f hX
    refine ⟨a, ⟨k2.1, fun q => hn ?_⟩, k2.2⟩
    by_cases z : costs (81 * hr + b) = 100000000
    · rw [if_pos z]
    · rw [if_neg z, if_pos q]

def f_Model_finds (W : Nat → Nat → Int32) (gvn : Nat → Int32) (costs : Nat → Int32) (lst : Nat → Int32) (sets : Nat → Int32) (lost : Int32) (wi : Nat) (U : Nat) (Hh : Nat) : (Nat → Int32) × (Nat → Int32) × (Nat → Int32) × (Nat → Int32) × Int32 := (lt_ (f_Model_fillsCosts W gvn costs wi U Hh) (fun q1 => (lt_ (f_Model_finds_L55 W q1.2 wi U lost (6 ^ U) (2 ^ U) (Hh + 1) Hh (f_Model_finds_L20 Hh lst (6 ^ U))) (fun q5 => (lt_ (f_Model_finds_L173 W q1.2 q5.2 (q5.2 0) wi U Hh lost (Hh + 1) 0 0 sets) (fun q6 => (q1.1, q1.2, q5.2, q6.2.2, q5.2 0)))))))
set_option maxRecDepth 20000 in
set_option maxHeartbeats 4000000 in
theorem c_Model_finds {G : mG} {h : mHp} {b : Nat} {lane : Nat → Int32} {many : Nat → Nat} {items : Nat → Int32} {spare : Nat → Int32} {stat : Int32} {tape : Nat → Int32} {taped : Nat} {fk : Int32} {fp : Int32} {mat : Nat} {mst : Nat} {tok : Int32} {mval : Int32} {W : Nat → Nat → Int32} {past : Nat → Int32} {nac : Nat} {imgs : Nat → Int32} {kept : Nat → Int32} {gvn : Nat → Int32} {costs : Nat → Int32} {lst : Nat → Int32} {sets : Nat → Int32} {bst : Int32} {mlo : Int64} {mal : Int32} {mpr : Nat → Int64} {lak : Nat → Int64} {trc : Nat → Int32} {ntr : Nat} {lost : Int32} {wi : Nat} {U : Nat} {Hh : Nat}   (hwi : wi < 3) (h0 : W wi 0 = nI U) (hU : U ≤ 4) (h1 : W wi 1 = nI Hh) (hH : Hh ≤ 6) : Ret G 5 mX8_finds [.ref b, .ref (b + (6 + wi)), .int lost] (ov h b (modL b lane many items spare stat tape taped fk fp mat mst tok mval W past nac imgs kept gvn costs lst sets bst mlo mal mpr lak trc ntr)) none (ov h b (modL b lane many items spare stat tape taped fk fp mat mst tok mval W past nac imgs kept (f_Model_finds W gvn costs lst sets lost wi U Hh).1 (f_Model_finds W gvn costs lst sets lost wi U Hh).2.1 (f_Model_finds W gvn costs lst sets lost wi U Hh).2.2.1 (f_Model_finds W gvn costs lst sets lost wi U Hh).2.2.2.1 (f_Model_finds W gvn costs lst sets lost wi U Hh).2.2.2.2 mlo mal mpr lak trc ntr)) := by
  generalize hf : f_Model_finds W gvn costs lst sets lost wi U Hh = R
  unfold f_Model_finds at hf
  refine Ret.of [(0, .ref b), (1, .ref (b + (6 + wi))), (2, .int lost)] (by decide) (Nat.le_of_ble_eq_true rfl) rfl ?_
  rintro Z rfl X Y
  have hv_b : isV (ov h b (modL b lane many items spare stat tape taped fk fp mat mst tok mval W past nac imgs kept gvn costs lst sets bst mlo mal mpr lak trc ntr)) b (modL b lane many items spare stat tape taped fk fp mat mst tok mval W past nac imgs kept gvn costs lst sets bst mlo mal mpr lak trc ntr) := ov_isV
  have h6 := pow6_4 hU
  have h2 := pow2_4 hU
  have h2p := Nat.two_pow_pos U
  have h6p : 0 < 6 ^ U := Nat.pow_pos (by decide)
  refine r_aload_n X 0 dX8_finds_0 rfl ?_
  refine r_aload_n X 1 dX8_finds_1 rfl ?_
  refine cl_X8_198 X (by decide) dX8_finds_2 (Nat.le_of_ble_eq_true rfl) (hv_b 0 _ rfl) (c_Model_fillsCosts  (by first | assumption | omega) (by first | assumption | omega) (by first | assumption | omega) (by first | assumption | omega) (by first | assumption | omega)) ?_
  obtain ⟨q1, eq1⟩ : ∃ q, q = f_Model_fillsCosts W gvn costs wi U Hh := ⟨_, rfl⟩
  rw [← eq1]
  rw [← eq1] at hf
  rw [lt_eq] at hf
  have hv_b : isV (ov h b (modL b lane many items spare stat tape taped fk fp mat mst tok mval W past nac imgs kept q1.1 q1.2 lst sets bst mlo mal mpr lak trc ntr)) b (modL b lane many items spare stat tape taped fk fp mat mst tok mval W past nac imgs kept q1.1 q1.2 lst sets bst mlo mal mpr lak trc ntr) := ov_isV
  refine r_aload_n X 1 dX8_finds_5 rfl ?_
  refine cl_X8_202 X (by decide) dX8_finds_6 (Nat.le_of_ble_eq_true rfl) (c_Model_stateOfN (isV1 (hv_b (6 + wi) _ (modL_W (by omega)))) (by first | assumption | omega) (by first | assumption | omega)) ?_
  refine r_istore_n [(0, .ref b), (1, .ref (b + (6 + wi))), (2, .int lost), (3, .int (nI (6 ^ U)))] X dX8_finds_9 rfl (by decide) rfl ?_
  refine r_iconst X (1 : Int32) dX8_finds_10 (by decide) ?_
  refine r_aload_n X 1 dX8_finds_11 rfl ?_
  refine r_iconst X (0 : Int32) dX8_finds_12 (by decide) ?_
  refine r_ialdv X (v := nI U) (k0 := 0) dX8_finds_13 (hv_b (6 + wi) _ (modL_W (by omega))) (by omega) (by decide) h0 ?_
  refine r_ishl1n X (k0 := U) dX8_finds_14 (by omega) ?_
  refine r_istore [(0, .ref b), (1, .ref (b + (6 + wi))), (2, .int lost), (3, .int (nI (6 ^ U))), (4, .int (nI (2 ^ U)))] X dX8_finds_15 (by decide) rfl ?_
  refine r_iconst X (0 : Int32) dX8_finds_17 (by decide) ?_
  refine r_istore [(0, .ref b), (1, .ref (b + (6 + wi))), (2, .int lost), (3, .int (nI (6 ^ U))), (4, .int (nI (2 ^ U))), (5, .int (0 : Int32))] X dX8_finds_18 (by decide) rfl ?_
  refine loop_up (P := fun k1 => SW Z 20 [(0, .ref b), (1, .ref (b + (6 + wi))), (2, .int lost), (3, .int (nI (6 ^ U))), (4, .int (nI (2 ^ U))), (5, .int (nI k1))] [] (ov h b (modL b lane many items spare stat tape taped fk fp mat mst tok mval W past nac imgs kept q1.1 q1.2 (f_Model_finds_L20 Hh lst k1) sets bst mlo mal mpr lak trc ntr))) (6 ^ U) ?_ ?_ 0 (Nat.zero_le _)
  rotate_left
  · intro k1 hk1 ih
    have hv_b : isV (ov h b (modL b lane many items spare stat tape taped fk fp mat mst tok mval W past nac imgs kept q1.1 q1.2 (f_Model_finds_L20 Hh lst k1) sets bst mlo mal mpr lak trc ntr)) b (modL b lane many items spare stat tape taped fk fp mat mst tok mval W past nac imgs kept q1.1 q1.2 (f_Model_finds_L20 Hh lst k1) sets bst mlo mal mpr lak trc ntr) := ov_isV
    refine r_iload X 5 dX8_finds_20 rfl ?_
    refine r_iload_n X 3 dX8_finds_22 rfl ?_
    refine r_icmp_ge X 48 dX8_finds_23 rfl (fun z => absurd (nI_lt (a := k1) (b := 6 ^ U) (by omega) (by omega)) z) (fun _ => ?_)
    refine r_aload_n X 0 dX8_finds_26 rfl ?_
    refine gf_X8_50 X dX8_finds_27 (hv_b 0 _ rfl) rfl ?_
    refine r_sipush X (1296 : Int32) dX8_finds_30 (by decide) ?_
    refine r_aload_n X 1 dX8_finds_33 rfl ?_
    refine r_iconst X (1 : Int32) dX8_finds_34 (by decide) ?_
    refine r_ialdv X (v := nI Hh) (k0 := 1) dX8_finds_35 (hv_b (6 + wi) _ (modL_W (by omega))) (by omega) (by decide) h1 ?_
    refine r_imuln X (a := 1296) (b := Hh) dX8_finds_36 ?_
    refine r_iload X 5 dX8_finds_37 rfl ?_
    refine r_iaddn X (a := 1296 * Hh) (b := k1) dX8_finds_39 ?_
    refine r_iconst X (0 : Int32) dX8_finds_40 (by decide) ?_
    refine r_iastn X (k0 := (1296 * Hh) + k1) dX8_finds_41 (hv_b 14 _ rfl) (by omega) (by first | decide | omega) ?_
    refine SW.heq (h2 := (ov h b (modL b lane many items spare stat tape taped fk fp mat mst tok mval W past nac imgs kept q1.1 q1.2 (upd (f_Model_finds_L20 Hh lst k1) ((1296 * Hh) + k1) (0 : Int32)) sets bst mlo mal mpr lak trc ntr))) (ov_up 14 (Nat.le_of_ble_eq_true rfl) rfl) ?_
    have hv_b : isV (ov h b (modL b lane many items spare stat tape taped fk fp mat mst tok mval W past nac imgs kept q1.1 q1.2 (upd (f_Model_finds_L20 Hh lst k1) ((1296 * Hh) + k1) (0 : Int32)) sets bst mlo mal mpr lak trc ntr)) b (modL b lane many items spare stat tape taped fk fp mat mst tok mval W past nac imgs kept q1.1 q1.2 (upd (f_Model_finds_L20 Hh lst k1) ((1296 * Hh) + k1) (0 : Int32)) sets bst mlo mal mpr lak trc ntr) := ov_isV
    refine r_iinc [(0, .ref b), (1, .ref (b + (6 + wi))), (2, .int lost), (3, .int (nI (6 ^ U))), (4, .int (nI (2 ^ U))), (5, .int (nI (k1 + 1)))] X (nI (k1 + 1)) 5 dX8_finds_42 rfl (nI_succ _).symm (by decide) rfl ?_
    refine r_goto X 20 dX8_finds_45 rfl ?_
    exact ih
  have hv_b : isV (ov h b (modL b lane many items spare stat tape taped fk fp mat mst tok mval W past nac imgs kept q1.1 q1.2 (f_Model_finds_L20 Hh lst (6 ^ U)) sets bst mlo mal mpr lak trc ntr)) b (modL b lane many items spare stat tape taped fk fp mat mst tok mval W past nac imgs kept q1.1 q1.2 (f_Model_finds_L20 Hh lst (6 ^ U)) sets bst mlo mal mpr lak trc ntr) := ov_isV
  refine r_iload X 5 dX8_finds_20 rfl ?_
  refine r_iload_n X 3 dX8_finds_22 rfl ?_
  refine r_icmp_ge X 48 dX8_finds_23 rfl (fun _ => ?_) (fun z => absurd z (nI_nlt (a := 6 ^ U) (b := 6 ^ U) (by omega) (by omega)))
  refine r_aload_n X 1 dX8_finds_48 rfl ?_
  refine r_iconst X (1 : Int32) dX8_finds_49 (by decide) ?_
  refine r_ialdv X (v := nI Hh) (k0 := 1) dX8_finds_50 (hv_b (6 + wi) _ (modL_W (by omega))) (by omega) (by decide) h1 ?_
  refine r_iconst X (1 : Int32) dX8_finds_51 (by decide) ?_
  refine r_isub X dX8_finds_52 ?_
  refine r_istore [(0, .ref b), (1, .ref (b + (6 + wi))), (2, .int lost), (3, .int (nI (6 ^ U))), (4, .int (nI (2 ^ U))), (5, .int ((nI Hh) - (1 : Int32)))] X dX8_finds_53 (by decide) rfl ?_
  have wl17 : ∀ (n_ : Nat) (y5 : Nat) (lstv : Nat → Int32), (y5 ≤ Hh) → y5 < n_ → ((((f_Model_finds_L55 W q1.2 wi U lost (6 ^ U) (2 ^ U) n_ y5 lstv).1) ≤ Hh) → SW Z 157 [(0, .ref b), (1, .ref (b + (6 + wi))), (2, .int lost)] [] (ov h b (modL b lane many items spare stat tape taped fk fp mat mst tok mval W past nac imgs kept q1.1 q1.2 ((f_Model_finds_L55 W q1.2 wi U lost (6 ^ U) (2 ^ U) n_ y5 lstv).2) sets bst mlo mal mpr lak trc ntr))) → SW Z 55 [(0, .ref b), (1, .ref (b + (6 + wi))), (2, .int lost), (3, .int (nI (6 ^ U))), (4, .int (nI (2 ^ U))), (5, .int (nI y5 - (1 : Int32)))] [] (ov h b (modL b lane many items spare stat tape taped fk fp mat mst tok mval W past nac imgs kept q1.1 q1.2 lstv sets bst mlo mal mpr lak trc ntr)) := by
    intro n_
    induction n_ with
    | zero => intro y5 lstv _ hm; exact absurd hm (Nat.not_lt_zero _)
    | succ n_ ih =>
      intro y5 lstv hi hm K
      generalize hf : f_Model_finds_L55 W q1.2 wi U lost (6 ^ U) (2 ^ U) (n_ + 1) y5 lstv = Rl at K
      rw [f_Model_finds_L55] at hf
      have hv_b : isV (ov h b (modL b lane many items spare stat tape taped fk fp mat mst tok mval W past nac imgs kept q1.1 q1.2 lstv sets bst mlo mal mpr lak trc ntr)) b (modL b lane many items spare stat tape taped fk fp mat mst tok mval W past nac imgs kept q1.1 q1.2 lstv sets bst mlo mal mpr lak trc ntr) := ov_isV
      refine r_iload X 5 dX8_finds_55 rfl ?_
      refine r_if_lt X 157 dX8_finds_57 rfl (fun ct => ?_) (fun ct => ?_)
      · rw [if_pos ct] at hf
        refine SW.pick [0, 1, 2] [(0, .ref b), (1, .ref (b + (6 + wi))), (2, .int lost)] rfl ?_
        subst hf
        exact K hi
      · rw [if_neg ct] at hf
        have hy := down_ge ct
        rw [show nI y5 - (1 : Int32) = nI (y5 - 1) from pk_sub (b := 1) (by omega)]
        refine r_iconst X (0 : Int32) dX8_finds_60 (by decide) ?_
        refine r_istore [(0, .ref b), (1, .ref (b + (6 + wi))), (2, .int lost), (3, .int (nI (6 ^ U))), (4, .int (nI (2 ^ U))), (5, .int (nI (y5 - 1))), (6, .int (0 : Int32))] X dX8_finds_61 (by decide) rfl ?_
        refine loop_up (P := fun k18 => SW Z 63 [(0, .ref b), (1, .ref (b + (6 + wi))), (2, .int lost), (3, .int (nI (6 ^ U))), (4, .int (nI (2 ^ U))), (5, .int (nI (y5 - 1))), (6, .int (nI k18))] [] (ov h b (modL b lane many items spare stat tape taped fk fp mat mst tok mval W past nac imgs kept q1.1 q1.2 (f_Model_finds_L63 W q1.2 wi U lost (2 ^ U) (y5 - 1) lstv k18) sets bst mlo mal mpr lak trc ntr))) (6 ^ U) ?_ ?_ 0 (Nat.zero_le _)
        rotate_left
        · intro k18 hk18 ih
          have hv_b : isV (ov h b (modL b lane many items spare stat tape taped fk fp mat mst tok mval W past nac imgs kept q1.1 q1.2 (f_Model_finds_L63 W q1.2 wi U lost (2 ^ U) (y5 - 1) lstv k18) sets bst mlo mal mpr lak trc ntr)) b (modL b lane many items spare stat tape taped fk fp mat mst tok mval W past nac imgs kept q1.1 q1.2 (f_Model_finds_L63 W q1.2 wi U lost (2 ^ U) (y5 - 1) lstv k18) sets bst mlo mal mpr lak trc ntr) := ov_isV
          refine r_iload X 6 dX8_finds_63 rfl ?_
          refine r_iload_n X 3 dX8_finds_65 rfl ?_
          refine r_icmp_ge X 151 dX8_finds_66 rfl (fun z => absurd (nI_lt (a := k18) (b := 6 ^ U) (by omega) (by omega)) z) (fun _ => ?_)
          refine r_ldc X dX8_finds_69 kk_X8_193 ?_
          refine r_istore [(0, .ref b), (1, .ref (b + (6 + wi))), (2, .int lost), (3, .int (nI (6 ^ U))), (4, .int (nI (2 ^ U))), (5, .int (nI (y5 - 1))), (6, .int (nI k18)), (7, .int (100000000 : Int32))] X dX8_finds_71 (by decide) rfl ?_
          refine r_iconst X (0 : Int32) dX8_finds_73 (by decide) ?_
          refine r_istore [(0, .ref b), (1, .ref (b + (6 + wi))), (2, .int lost), (3, .int (nI (6 ^ U))), (4, .int (nI (2 ^ U))), (5, .int (nI (y5 - 1))), (6, .int (nI k18)), (7, .int (100000000 : Int32)), (8, .int (0 : Int32))] X dX8_finds_74 (by decide) rfl ?_
          have wl19 : ∀ (n_ : Nat) (y7 : Int32) (y8 : Nat), (y8 ≤ 2 ^ U) → (2 ^ U - y8) < n_ → ((((f_Model_finds_L76 W q1.2 (f_Model_finds_L63 W q1.2 wi U lost (2 ^ U) (y5 - 1) lstv k18) wi U lost (2 ^ U) (y5 - 1) k18 n_ y7 y8).2) ≤ 2 ^ U) → SW Z 129 [(0, .ref b), (1, .ref (b + (6 + wi))), (2, .int lost), (3, .int (nI (6 ^ U))), (4, .int (nI (2 ^ U))), (5, .int (nI (y5 - 1))), (6, .int (nI k18)), (7, .int ((f_Model_finds_L76 W q1.2 (f_Model_finds_L63 W q1.2 wi U lost (2 ^ U) (y5 - 1) lstv k18) wi U lost (2 ^ U) (y5 - 1) k18 n_ y7 y8).1))] [] (ov h b (modL b lane many items spare stat tape taped fk fp mat mst tok mval W past nac imgs kept q1.1 q1.2 (f_Model_finds_L63 W q1.2 wi U lost (2 ^ U) (y5 - 1) lstv k18) sets bst mlo mal mpr lak trc ntr))) → SW Z 76 [(0, .ref b), (1, .ref (b + (6 + wi))), (2, .int lost), (3, .int (nI (6 ^ U))), (4, .int (nI (2 ^ U))), (5, .int (nI (y5 - 1))), (6, .int (nI k18)), (7, .int y7), (8, .int (nI y8))] [] (ov h b (modL b lane many items spare stat tape taped fk fp mat mst tok mval W past nac imgs kept q1.1 q1.2 (f_Model_finds_L63 W q1.2 wi U lost (2 ^ U) (y5 - 1) lstv k18) sets bst mlo mal mpr lak trc ntr)) := by
            intro n_
            induction n_ with
            | zero => intro y7 y8 _ hm; exact absurd hm (Nat.not_lt_zero _)
            | succ n_ ih =>
              intro y7 y8 hi hm K
              generalize hf : f_Model_finds_L76 W q1.2 (f_Model_finds_L63 W q1.2 wi U lost (2 ^ U) (y5 - 1) lstv k18) wi U lost (2 ^ U) (y5 - 1) k18 (n_ + 1) y7 y8 = Rl at K
              rw [f_Model_finds_L76] at hf
              have hv_b : isV (ov h b (modL b lane many items spare stat tape taped fk fp mat mst tok mval W past nac imgs kept q1.1 q1.2 (f_Model_finds_L63 W q1.2 wi U lost (2 ^ U) (y5 - 1) lstv k18) sets bst mlo mal mpr lak trc ntr)) b (modL b lane many items spare stat tape taped fk fp mat mst tok mval W past nac imgs kept q1.1 q1.2 (f_Model_finds_L63 W q1.2 wi U lost (2 ^ U) (y5 - 1) lstv k18) sets bst mlo mal mpr lak trc ntr) := ov_isV
              refine r_iload X 8 dX8_finds_76 rfl ?_
              refine r_iload X 4 dX8_finds_78 rfl ?_
              refine r_icmp_ge X 129 dX8_finds_80 rfl (fun co => ?_) (fun co => ?_)
              · rw [if_neg co] at hf
                refine SW.pick [0, 1, 2, 3, 4, 5, 6, 7] [(0, .ref b), (1, .ref (b + (6 + wi))), (2, .int lost), (3, .int (nI (6 ^ U))), (4, .int (nI (2 ^ U))), (5, .int (nI (y5 - 1))), (6, .int (nI k18)), (7, .int y7)] rfl ?_
                subst hf
                exact K hi
              · rw [if_pos co] at hf
                have ho := nI_ltX co (by omega) (by omega)
                refine r_iload X 5 dX8_finds_83 rfl ?_
                refine r_if_gt X 93 dX8_finds_85 rfl (fun c20 => ?_) (fun c20 => ?_)
                · rw [if_pos c20] at hf
                  refine r_aload_n X 0 dX8_finds_93 rfl ?_
                  refine r_aload_n X 1 dX8_finds_94 rfl ?_
                  refine r_iload X 5 dX8_finds_95 rfl ?_
                  refine r_iload X 6 dX8_finds_97 rfl ?_
                  refine r_iload X 8 dX8_finds_99 rfl ?_
                  refine r_iload_n X 2 dX8_finds_101 rfl ?_
                  refine cl_X8_206 X (by decide) dX8_finds_102 (Nat.le_of_ble_eq_true rfl) (hv_b 0 _ rfl) (c_Model_costFrom hv_b (by first | assumption | omega) (by first | assumption | omega) (by first | assumption | omega) (by first | assumption | omega) (by first | assumption | omega)) ?_
                  refine r_istore [(0, .ref b), (1, .ref (b + (6 + wi))), (2, .int lost), (3, .int (nI (6 ^ U))), (4, .int (nI (2 ^ U))), (5, .int (nI (y5 - 1))), (6, .int (nI k18)), (7, .int y7), (8, .int (nI y8)), (9, .int (f_Model_costFrom W q1.2 (f_Model_finds_L63 W q1.2 wi U lost (2 ^ U) (y5 - 1) lstv k18) (y5 - 1) k18 (nI y8) lost wi U))] X dX8_finds_105 (by decide) rfl ?_
                  refine r_iload X 9 dX8_finds_107 rfl ?_
                  refine r_iload X 7 dX8_finds_109 rfl ?_
                  refine m_join (P := SW Z 121 [(0, .ref b), (1, .ref (b + (6 + wi))), (2, .int lost), (3, .int (nI (6 ^ U))), (4, .int (nI (2 ^ U))), (5, .int (nI (y5 - 1))), (6, .int (nI k18)), (8, .int (nI y8))] [.int (if (f_Model_costFrom W q1.2 (f_Model_finds_L63 W q1.2 wi U lost (2 ^ U) (y5 - 1) lstv k18) (y5 - 1) k18 (nI y8) lost wi U) < y7 then (f_Model_costFrom W q1.2 (f_Model_finds_L63 W q1.2 wi U lost (2 ^ U) (y5 - 1) lstv k18) (y5 - 1) k18 (nI y8) lost wi U) else y7)] (ov h b (modL b lane many items spare stat tape taped fk fp mat mst tok mval W past nac imgs kept q1.1 q1.2 (f_Model_finds_L63 W q1.2 wi U lost (2 ^ U) (y5 - 1) lstv k18) sets bst mlo mal mpr lak trc ntr))) (fun K => ?_) ?_
                  · refine r_icmp_ge X 119 dX8_finds_111 rfl (fun c21 => ?_) (fun c21 => ?_)
                    · skip
                      refine r_iload X 7 dX8_finds_119 rfl ?_
                      refine SW.pick [0, 1, 2, 3, 4, 5, 6, 8] [(0, .ref b), (1, .ref (b + (6 + wi))), (2, .int lost), (3, .int (nI (6 ^ U))), (4, .int (nI (2 ^ U))), (5, .int (nI (y5 - 1))), (6, .int (nI k18)), (8, .int (nI y8))] rfl ?_
                      try simp only [if_neg c21] at K ⊢
                      exact K
                    · skip
                      refine r_iload X 9 dX8_finds_114 rfl ?_
                      refine r_goto X 121 dX8_finds_116 rfl ?_
                      refine SW.pick [0, 1, 2, 3, 4, 5, 6, 8] [(0, .ref b), (1, .ref (b + (6 + wi))), (2, .int lost), (3, .int (nI (6 ^ U))), (4, .int (nI (2 ^ U))), (5, .int (nI (y5 - 1))), (6, .int (nI k18)), (8, .int (nI y8))] rfl ?_
                      try simp only [if_pos c21] at K ⊢
                      exact K
                  have hv_b : isV (ov h b (modL b lane many items spare stat tape taped fk fp mat mst tok mval W past nac imgs kept q1.1 q1.2 (f_Model_finds_L63 W q1.2 wi U lost (2 ^ U) (y5 - 1) lstv k18) sets bst mlo mal mpr lak trc ntr)) b (modL b lane many items spare stat tape taped fk fp mat mst tok mval W past nac imgs kept q1.1 q1.2 (f_Model_finds_L63 W q1.2 wi U lost (2 ^ U) (y5 - 1) lstv k18) sets bst mlo mal mpr lak trc ntr) := ov_isV
                  refine r_istore [(0, .ref b), (1, .ref (b + (6 + wi))), (2, .int lost), (3, .int (nI (6 ^ U))), (4, .int (nI (2 ^ U))), (5, .int (nI (y5 - 1))), (6, .int (nI k18)), (7, .int (if (f_Model_costFrom W q1.2 (f_Model_finds_L63 W q1.2 wi U lost (2 ^ U) (y5 - 1) lstv k18) (y5 - 1) k18 (nI y8) lost wi U) < y7 then (f_Model_costFrom W q1.2 (f_Model_finds_L63 W q1.2 wi U lost (2 ^ U) (y5 - 1) lstv k18) (y5 - 1) k18 (nI y8) lost wi U) else y7)), (8, .int (nI y8))] X dX8_finds_121 (by decide) rfl ?_
                  refine r_iinc [(0, .ref b), (1, .ref (b + (6 + wi))), (2, .int lost), (3, .int (nI (6 ^ U))), (4, .int (nI (2 ^ U))), (5, .int (nI (y5 - 1))), (6, .int (nI k18)), (7, .int (if (f_Model_costFrom W q1.2 (f_Model_finds_L63 W q1.2 wi U lost (2 ^ U) (y5 - 1) lstv k18) (y5 - 1) k18 (nI y8) lost wi U) < y7 then (f_Model_costFrom W q1.2 (f_Model_finds_L63 W q1.2 wi U lost (2 ^ U) (y5 - 1) lstv k18) (y5 - 1) k18 (nI y8) lost wi U) else y7)), (8, .int (nI (y8 + 1)))] X (nI (y8 + 1)) 8 dX8_finds_123 rfl (nI_succ _).symm (by decide) rfl ?_
                  refine r_goto X 76 dX8_finds_126 rfl ?_
                  exact ih _ _ (by omega) (by omega) (by rw [hf]; exact K)
                · rw [if_neg c20] at hf
                  refine r_iload X 6 dX8_finds_88 rfl ?_
                  refine r_if_ne X 129 dX8_finds_90 rfl (fun c22 => ?_) (fun c22 => ?_)
                  · rw [if_neg c22] at hf
                    refine SW.pick [0, 1, 2, 3, 4, 5, 6, 7] [(0, .ref b), (1, .ref (b + (6 + wi))), (2, .int lost), (3, .int (nI (6 ^ U))), (4, .int (nI (2 ^ U))), (5, .int (nI (y5 - 1))), (6, .int (nI k18)), (7, .int y7)] rfl ?_
                    subst hf
                    exact K hi
                  · rw [if_pos c22] at hf
                    refine r_aload_n X 0 dX8_finds_93 rfl ?_
                    refine r_aload_n X 1 dX8_finds_94 rfl ?_
                    refine r_iload X 5 dX8_finds_95 rfl ?_
                    refine r_iload X 6 dX8_finds_97 rfl ?_
                    refine r_iload X 8 dX8_finds_99 rfl ?_
                    refine r_iload_n X 2 dX8_finds_101 rfl ?_
                    refine cl_X8_206 X (by decide) dX8_finds_102 (Nat.le_of_ble_eq_true rfl) (hv_b 0 _ rfl) (c_Model_costFrom hv_b (by first | assumption | omega) (by first | assumption | omega) (by first | assumption | omega) (by first | assumption | omega) (by first | assumption | omega)) ?_
                    refine r_istore [(0, .ref b), (1, .ref (b + (6 + wi))), (2, .int lost), (3, .int (nI (6 ^ U))), (4, .int (nI (2 ^ U))), (5, .int (nI (y5 - 1))), (6, .int (nI k18)), (7, .int y7), (8, .int (nI y8)), (9, .int (f_Model_costFrom W q1.2 (f_Model_finds_L63 W q1.2 wi U lost (2 ^ U) (y5 - 1) lstv k18) (y5 - 1) k18 (nI y8) lost wi U))] X dX8_finds_105 (by decide) rfl ?_
                    refine r_iload X 9 dX8_finds_107 rfl ?_
                    refine r_iload X 7 dX8_finds_109 rfl ?_
                    refine m_join (P := SW Z 121 [(0, .ref b), (1, .ref (b + (6 + wi))), (2, .int lost), (3, .int (nI (6 ^ U))), (4, .int (nI (2 ^ U))), (5, .int (nI (y5 - 1))), (6, .int (nI k18)), (8, .int (nI y8))] [.int (if (f_Model_costFrom W q1.2 (f_Model_finds_L63 W q1.2 wi U lost (2 ^ U) (y5 - 1) lstv k18) (y5 - 1) k18 (nI y8) lost wi U) < y7 then (f_Model_costFrom W q1.2 (f_Model_finds_L63 W q1.2 wi U lost (2 ^ U) (y5 - 1) lstv k18) (y5 - 1) k18 (nI y8) lost wi U) else y7)] (ov h b (modL b lane many items spare stat tape taped fk fp mat mst tok mval W past nac imgs kept q1.1 q1.2 (f_Model_finds_L63 W q1.2 wi U lost (2 ^ U) (y5 - 1) lstv k18) sets bst mlo mal mpr lak trc ntr))) (fun K => ?_) ?_
                    · refine r_icmp_ge X 119 dX8_finds_111 rfl (fun c23 => ?_) (fun c23 => ?_)
                      · skip
                        refine r_iload X 7 dX8_finds_119 rfl ?_
                        refine SW.pick [0, 1, 2, 3, 4, 5, 6, 8] [(0, .ref b), (1, .ref (b + (6 + wi))), (2, .int lost), (3, .int (nI (6 ^ U))), (4, .int (nI (2 ^ U))), (5, .int (nI (y5 - 1))), (6, .int (nI k18)), (8, .int (nI y8))] rfl ?_
                        try simp only [if_neg c23] at K ⊢
                        exact K
                      · skip
                        refine r_iload X 9 dX8_finds_114 rfl ?_
                        refine r_goto X 121 dX8_finds_116 rfl ?_
                        refine SW.pick [0, 1, 2, 3, 4, 5, 6, 8] [(0, .ref b), (1, .ref (b + (6 + wi))), (2, .int lost), (3, .int (nI (6 ^ U))), (4, .int (nI (2 ^ U))), (5, .int (nI (y5 - 1))), (6, .int (nI k18)), (8, .int (nI y8))] rfl ?_
                        try simp only [if_pos c23] at K ⊢
                        exact K
                    have hv_b : isV (ov h b (modL b lane many items spare stat tape taped fk fp mat mst tok mval W past nac imgs kept q1.1 q1.2 (f_Model_finds_L63 W q1.2 wi U lost (2 ^ U) (y5 - 1) lstv k18) sets bst mlo mal mpr lak trc ntr)) b (modL b lane many items spare stat tape taped fk fp mat mst tok mval W past nac imgs kept q1.1 q1.2 (f_Model_finds_L63 W q1.2 wi U lost (2 ^ U) (y5 - 1) lstv k18) sets bst mlo mal mpr lak trc ntr) := ov_isV
                    refine r_istore [(0, .ref b), (1, .ref (b + (6 + wi))), (2, .int lost), (3, .int (nI (6 ^ U))), (4, .int (nI (2 ^ U))), (5, .int (nI (y5 - 1))), (6, .int (nI k18)), (7, .int (if (f_Model_costFrom W q1.2 (f_Model_finds_L63 W q1.2 wi U lost (2 ^ U) (y5 - 1) lstv k18) (y5 - 1) k18 (nI y8) lost wi U) < y7 then (f_Model_costFrom W q1.2 (f_Model_finds_L63 W q1.2 wi U lost (2 ^ U) (y5 - 1) lstv k18) (y5 - 1) k18 (nI y8) lost wi U) else y7)), (8, .int (nI y8))] X dX8_finds_121 (by decide) rfl ?_
                    refine r_iinc [(0, .ref b), (1, .ref (b + (6 + wi))), (2, .int lost), (3, .int (nI (6 ^ U))), (4, .int (nI (2 ^ U))), (5, .int (nI (y5 - 1))), (6, .int (nI k18)), (7, .int (if (f_Model_costFrom W q1.2 (f_Model_finds_L63 W q1.2 wi U lost (2 ^ U) (y5 - 1) lstv k18) (y5 - 1) k18 (nI y8) lost wi U) < y7 then (f_Model_costFrom W q1.2 (f_Model_finds_L63 W q1.2 wi U lost (2 ^ U) (y5 - 1) lstv k18) (y5 - 1) k18 (nI y8) lost wi U) else y7)), (8, .int (nI (y8 + 1)))] X (nI (y8 + 1)) 8 dX8_finds_123 rfl (nI_succ _).symm (by decide) rfl ?_
                    refine r_goto X 76 dX8_finds_126 rfl ?_
                    exact ih _ _ (by omega) (by omega) (by rw [hf]; exact K)
          refine wl19 (2 ^ U + 1) (100000000 : Int32) 0 (Nat.zero_le _) (by omega) (fun hi => ?_)
          obtain ⟨q4, eq4⟩ : ∃ q, q = f_Model_finds_L76 W q1.2 (f_Model_finds_L63 W q1.2 wi U lost (2 ^ U) (y5 - 1) lstv k18) wi U lost (2 ^ U) (y5 - 1) k18 (2 ^ U + 1) (100000000 : Int32) 0 := ⟨_, rfl⟩
          rw [← eq4]
          rw [← eq4] at hi
          have hv_b : isV (ov h b (modL b lane many items spare stat tape taped fk fp mat mst tok mval W past nac imgs kept q1.1 q1.2 (f_Model_finds_L63 W q1.2 wi U lost (2 ^ U) (y5 - 1) lstv k18) sets bst mlo mal mpr lak trc ntr)) b (modL b lane many items spare stat tape taped fk fp mat mst tok mval W past nac imgs kept q1.1 q1.2 (f_Model_finds_L63 W q1.2 wi U lost (2 ^ U) (y5 - 1) lstv k18) sets bst mlo mal mpr lak trc ntr) := ov_isV
          refine r_aload_n X 0 dX8_finds_129 rfl ?_
          refine gf_X8_50 X dX8_finds_130 (hv_b 0 _ rfl) rfl ?_
          refine r_sipush X (1296 : Int32) dX8_finds_133 (by decide) ?_
          refine r_iload X 5 dX8_finds_136 rfl ?_
          refine r_imuln X (a := 1296) (b := y5 - 1) dX8_finds_138 ?_
          refine r_iload X 6 dX8_finds_139 rfl ?_
          refine r_iaddn X (a := 1296 * (y5 - 1)) (b := k18) dX8_finds_141 ?_
          refine r_iload X 7 dX8_finds_142 rfl ?_
          refine r_iastn X (k0 := (1296 * (y5 - 1)) + k18) dX8_finds_144 (hv_b 14 _ rfl) (by omega) (by first | decide | omega) ?_
          refine SW.heq (h2 := (ov h b (modL b lane many items spare stat tape taped fk fp mat mst tok mval W past nac imgs kept q1.1 q1.2 (upd (f_Model_finds_L63 W q1.2 wi U lost (2 ^ U) (y5 - 1) lstv k18) ((1296 * (y5 - 1)) + k18) q4.1) sets bst mlo mal mpr lak trc ntr))) (ov_up 14 (Nat.le_of_ble_eq_true rfl) rfl) ?_
          have hv_b : isV (ov h b (modL b lane many items spare stat tape taped fk fp mat mst tok mval W past nac imgs kept q1.1 q1.2 (upd (f_Model_finds_L63 W q1.2 wi U lost (2 ^ U) (y5 - 1) lstv k18) ((1296 * (y5 - 1)) + k18) q4.1) sets bst mlo mal mpr lak trc ntr)) b (modL b lane many items spare stat tape taped fk fp mat mst tok mval W past nac imgs kept q1.1 q1.2 (upd (f_Model_finds_L63 W q1.2 wi U lost (2 ^ U) (y5 - 1) lstv k18) ((1296 * (y5 - 1)) + k18) q4.1) sets bst mlo mal mpr lak trc ntr) := ov_isV
          refine r_iinc [(0, .ref b), (1, .ref (b + (6 + wi))), (2, .int lost), (3, .int (nI (6 ^ U))), (4, .int (nI (2 ^ U))), (5, .int (nI (y5 - 1))), (6, .int (nI (k18 + 1))), (7, .int q4.1)] X (nI (k18 + 1)) 6 dX8_finds_145 rfl (nI_succ _).symm (by decide) rfl ?_
          refine r_goto X 63 dX8_finds_148 rfl ?_
          refine SW.pick [0, 1, 2, 3, 4, 5, 6] [(0, .ref b), (1, .ref (b + (6 + wi))), (2, .int lost), (3, .int (nI (6 ^ U))), (4, .int (nI (2 ^ U))), (5, .int (nI (y5 - 1))), (6, .int (nI (k18 + 1)))] rfl ?_
          subst eq4
          exact ih
        have hv_b : isV (ov h b (modL b lane many items spare stat tape taped fk fp mat mst tok mval W past nac imgs kept q1.1 q1.2 (f_Model_finds_L63 W q1.2 wi U lost (2 ^ U) (y5 - 1) lstv (6 ^ U)) sets bst mlo mal mpr lak trc ntr)) b (modL b lane many items spare stat tape taped fk fp mat mst tok mval W past nac imgs kept q1.1 q1.2 (f_Model_finds_L63 W q1.2 wi U lost (2 ^ U) (y5 - 1) lstv (6 ^ U)) sets bst mlo mal mpr lak trc ntr) := ov_isV
        refine r_iload X 6 dX8_finds_63 rfl ?_
        refine r_iload_n X 3 dX8_finds_65 rfl ?_
        refine r_icmp_ge X 151 dX8_finds_66 rfl (fun _ => ?_) (fun z => absurd z (nI_nlt (a := 6 ^ U) (b := 6 ^ U) (by omega) (by omega)))
        refine r_iinc [(0, .ref b), (1, .ref (b + (6 + wi))), (2, .int lost), (3, .int (nI (6 ^ U))), (4, .int (nI (2 ^ U))), (5, .int (nI (y5 - 1) - (1 : Int32))), (6, .int (nI (6 ^ U)))] X (nI (y5 - 1) - (1 : Int32)) 5 dX8_finds_151 rfl (i32_dec _) (by decide) rfl ?_
        refine r_goto X 55 dX8_finds_154 rfl ?_
        refine SW.pick [0, 1, 2, 3, 4, 5] [(0, .ref b), (1, .ref (b + (6 + wi))), (2, .int lost), (3, .int (nI (6 ^ U))), (4, .int (nI (2 ^ U))), (5, .int (nI (y5 - 1) - (1 : Int32)))] rfl ?_
        exact ih _ _ (by omega) (by omega) (by rw [hf]; exact K)
  refine wl17 (Hh + 1) Hh (f_Model_finds_L20 Hh lst (6 ^ U)) (Nat.le_refl _) (by omega) (fun hi => ?_)
  obtain ⟨q5, eq5⟩ : ∃ q, q = f_Model_finds_L55 W q1.2 wi U lost (6 ^ U) (2 ^ U) (Hh + 1) Hh (f_Model_finds_L20 Hh lst (6 ^ U)) := ⟨_, rfl⟩
  rw [← eq5]
  rw [← eq5] at hf
  rw [lt_eq] at hf
  rw [← eq5] at hi
  have hv_b : isV (ov h b (modL b lane many items spare stat tape taped fk fp mat mst tok mval W past nac imgs kept q1.1 q1.2 q5.2 sets bst mlo mal mpr lak trc ntr)) b (modL b lane many items spare stat tape taped fk fp mat mst tok mval W past nac imgs kept q1.1 q1.2 q5.2 sets bst mlo mal mpr lak trc ntr) := ov_isV
  refine r_aload_n X 0 dX8_finds_157 rfl ?_
  refine r_aload_n X 0 dX8_finds_158 rfl ?_
  refine gf_X8_50 X dX8_finds_159 (hv_b 0 _ rfl) rfl ?_
  refine r_iconst X (0 : Int32) dX8_finds_162 (by decide) ?_
  refine r_ialdn X (k0 := 0) dX8_finds_163 (hv_b 14 _ rfl) (by omega) (by decide) ?_
  refine pf_X8_210 X dX8_finds_164 (hv_b 0 _ rfl) (Nat.le_of_ble_eq_true rfl) ?_
  refine SW.heq (h2 := (ov h b (modL b lane many items spare stat tape taped fk fp mat mst tok mval W past nac imgs kept q1.1 q1.2 q5.2 sets (q5.2 0) mlo mal mpr lak trc ntr))) (ov_up 0 (Nat.le_of_ble_eq_true rfl) rfl) ?_
  have hv_b : isV (ov h b (modL b lane many items spare stat tape taped fk fp mat mst tok mval W past nac imgs kept q1.1 q1.2 q5.2 sets (q5.2 0) mlo mal mpr lak trc ntr)) b (modL b lane many items spare stat tape taped fk fp mat mst tok mval W past nac imgs kept q1.1 q1.2 q5.2 sets (q5.2 0) mlo mal mpr lak trc ntr) := ov_isV
  refine r_iconst X (0 : Int32) dX8_finds_167 (by decide) ?_
  refine r_istore [(0, .ref b), (1, .ref (b + (6 + wi))), (2, .int lost), (5, .int (0 : Int32))] X dX8_finds_168 (by decide) rfl ?_
  refine r_iconst X (0 : Int32) dX8_finds_170 (by decide) ?_
  refine r_istore [(0, .ref b), (1, .ref (b + (6 + wi))), (2, .int lost), (5, .int (0 : Int32)), (6, .int (0 : Int32))] X dX8_finds_171 (by decide) rfl ?_
  have wl25 : ∀ (n_ : Nat) (y5 : Nat) (y6 : Nat) (setsv : Nat → Int32), (y6 ≤ Hh ∧ y5 < 6 ^ U ∧ (q5.2 0 < (100000000 : Int32) → ¬ q5.2 ((1296 * y6) + y5) = (100000000 : Int32))) → (Hh - y6) < n_ → ((((f_Model_finds_L173 W q1.2 q5.2 (q5.2 0) wi U Hh lost n_ y5 y6 setsv).2.1) ≤ Hh ∧ ((f_Model_finds_L173 W q1.2 q5.2 (q5.2 0) wi U Hh lost n_ y5 y6 setsv).1) < 6 ^ U ∧ (q5.2 0 < (100000000 : Int32) → ¬ q5.2 ((1296 * ((f_Model_finds_L173 W q1.2 q5.2 (q5.2 0) wi U Hh lost n_ y5 y6 setsv).2.1)) + ((f_Model_finds_L173 W q1.2 q5.2 (q5.2 0) wi U Hh lost n_ y5 y6 setsv).1)) = (100000000 : Int32))) → SW Z 254 [] [] (ov h b (modL b lane many items spare stat tape taped fk fp mat mst tok mval W past nac imgs kept q1.1 q1.2 q5.2 ((f_Model_finds_L173 W q1.2 q5.2 (q5.2 0) wi U Hh lost n_ y5 y6 setsv).2.2) (q5.2 0) mlo mal mpr lak trc ntr))) → SW Z 173 [(0, .ref b), (1, .ref (b + (6 + wi))), (2, .int lost), (5, .int (nI y5)), (6, .int (nI y6))] [] (ov h b (modL b lane many items spare stat tape taped fk fp mat mst tok mval W past nac imgs kept q1.1 q1.2 q5.2 setsv (q5.2 0) mlo mal mpr lak trc ntr)) := by
    intro n_
    induction n_ with
    | zero => intro y5 y6 setsv _ hm; exact absurd hm (Nat.not_lt_zero _)
    | succ n_ ih =>
      intro y5 y6 setsv hi hm K
      generalize hf : f_Model_finds_L173 W q1.2 q5.2 (q5.2 0) wi U Hh lost (n_ + 1) y5 y6 setsv = Rl at K
      rw [f_Model_finds_L173] at hf
      have hv_b : isV (ov h b (modL b lane many items spare stat tape taped fk fp mat mst tok mval W past nac imgs kept q1.1 q1.2 q5.2 setsv (q5.2 0) mlo mal mpr lak trc ntr)) b (modL b lane many items spare stat tape taped fk fp mat mst tok mval W past nac imgs kept q1.1 q1.2 q5.2 setsv (q5.2 0) mlo mal mpr lak trc ntr) := ov_isV
      refine r_iload X 4 dX8_finds_173 rfl ?_
      refine r_aload_n X 1 dX8_finds_175 rfl ?_
      refine r_iconst X (1 : Int32) dX8_finds_176 (by decide) ?_
      refine r_ialdv X (v := nI Hh) (k0 := 1) dX8_finds_177 (hv_b (6 + wi) _ (modL_W (by omega))) (by omega) (by decide) h1 ?_
      refine r_icmp_ge X 254 dX8_finds_178 rfl (fun ch => ?_) (fun ch => ?_)
      · rw [if_neg ch] at hf
        refine SW.pick [] [] rfl ?_
        subst hf
        exact K hi
      · rw [if_pos ch] at hf
        have hh := nI_ltX ch (by omega) (by omega)
        refine r_aload_n X 0 dX8_finds_181 rfl ?_
        refine gf_X8_210 X dX8_finds_182 (hv_b 0 _ rfl) rfl ?_
        refine r_ldc X dX8_finds_185 kk_X8_193 ?_
        refine r_icmp_ge X 254 dX8_finds_187 rfl (fun cb => ?_) (fun cb => ?_)
        · rw [if_neg cb] at hf
          refine SW.pick [] [] rfl ?_
          subst hf
          exact K hi
        · rw [if_pos cb] at hf
          have hi0 := hi
          have hx := fd_ex eq5 (by omega) (by omega) (by omega) hh hi.2.1 (hi.2.2 cb)
          refine r_iconst X (0 : Int32) dX8_finds_190 (by decide) ?_
          refine r_istore [(0, .ref b), (1, .ref (b + (6 + wi))), (2, .int lost), (5, .int (nI y5)), (6, .int (nI y6)), (7, .int (0 : Int32))] X dX8_finds_191 (by decide) rfl ?_
          have wl26 : ∀ (n_ : Nat) (y7 : Nat), (∃ o, y7 ≤ o ∧ o < 2 ^ U ∧ f_Model_costFrom W q1.2 q5.2 y6 y5 (nI o) lost wi U = q5.2 ((1296 * y6) + y5)) → (2 ^ U - y7) < n_ → ((∃ o, (f_Model_finds_L193 W q1.2 q5.2 wi U lost y5 y6 n_ y7) ≤ o ∧ o < 2 ^ U ∧ f_Model_costFrom W q1.2 q5.2 y6 y5 (nI o) lost wi U = q5.2 ((1296 * y6) + y5)) → SW Z 228 [(0, .ref b), (1, .ref (b + (6 + wi))), (2, .int lost), (5, .int (nI y5)), (6, .int (nI y6)), (7, .int (nI (f_Model_finds_L193 W q1.2 q5.2 wi U lost y5 y6 n_ y7)))] [] (ov h b (modL b lane many items spare stat tape taped fk fp mat mst tok mval W past nac imgs kept q1.1 q1.2 q5.2 setsv (q5.2 0) mlo mal mpr lak trc ntr))) → SW Z 193 [(0, .ref b), (1, .ref (b + (6 + wi))), (2, .int lost), (5, .int (nI y5)), (6, .int (nI y6)), (7, .int (nI y7))] [] (ov h b (modL b lane many items spare stat tape taped fk fp mat mst tok mval W past nac imgs kept q1.1 q1.2 q5.2 setsv (q5.2 0) mlo mal mpr lak trc ntr)) := by
            intro n_
            induction n_ with
            | zero => intro y7 _ hm; exact absurd hm (Nat.not_lt_zero _)
            | succ n_ ih =>
              intro y7 hi hm K
              generalize hf : f_Model_finds_L193 W q1.2 q5.2 wi U lost y5 y6 (n_ + 1) y7 = Rl at K
              rw [f_Model_finds_L193] at hf
              have hlt := ex_lt (A := fun o => f_Model_costFrom W q1.2 q5.2 y6 y5 (nI o) lost wi U) hi
              have hv_b : isV (ov h b (modL b lane many items spare stat tape taped fk fp mat mst tok mval W past nac imgs kept q1.1 q1.2 q5.2 setsv (q5.2 0) mlo mal mpr lak trc ntr)) b (modL b lane many items spare stat tape taped fk fp mat mst tok mval W past nac imgs kept q1.1 q1.2 q5.2 setsv (q5.2 0) mlo mal mpr lak trc ntr) := ov_isV
              refine r_aload_n X 0 dX8_finds_193 rfl ?_
              refine r_aload_n X 1 dX8_finds_194 rfl ?_
              refine r_iload X 4 dX8_finds_195 rfl ?_
              refine r_iload X 3 dX8_finds_197 rfl ?_
              refine r_iload X 5 dX8_finds_199 rfl ?_
              refine r_iload_n X 2 dX8_finds_201 rfl ?_
              refine cl_X8_206 X (by decide) dX8_finds_202 (Nat.le_of_ble_eq_true rfl) (hv_b 0 _ rfl) (c_Model_costFrom hv_b (by first | assumption | omega) (by first | assumption | omega) (by first | assumption | omega) (by first | assumption | omega) (by first | assumption | omega)) ?_
              refine r_aload_n X 0 dX8_finds_205 rfl ?_
              refine gf_X8_50 X dX8_finds_206 (hv_b 0 _ rfl) rfl ?_
              refine r_sipush X (1296 : Int32) dX8_finds_209 (by decide) ?_
              refine r_iload X 4 dX8_finds_212 rfl ?_
              refine r_imuln X (a := 1296) (b := y6) dX8_finds_214 ?_
              refine r_iload X 3 dX8_finds_215 rfl ?_
              refine r_iaddn X (a := 1296 * y6) (b := y5) dX8_finds_217 ?_
              refine r_ialdn X (k0 := (1296 * y6) + y5) dX8_finds_218 (hv_b 14 _ rfl) (by omega) (by decide) ?_
              refine r_icmp_eq X 228 dX8_finds_219 rfl (fun cq => ?_) (fun cq => ?_)
              · rw [if_pos cq] at hf
                subst hf
                exact K hi
              · rw [if_neg cq] at hf
                refine r_iinc [(0, .ref b), (1, .ref (b + (6 + wi))), (2, .int lost), (5, .int (nI y5)), (6, .int (nI y6)), (7, .int (nI (y7 + 1)))] X (nI (y7 + 1)) 5 dX8_finds_222 rfl (nI_succ _).symm (by decide) rfl ?_
                refine r_goto X 193 dX8_finds_225 rfl ?_
                exact ih _ (fd_back (A := fun o => f_Model_costFrom W q1.2 q5.2 y6 y5 (nI o) lost wi U) hi cq) (by omega) (by rw [hf]; exact K)
          refine wl26 (2 ^ U + 1) 0 hx (by omega) (fun hi => ?_)
          have hv_b : isV (ov h b (modL b lane many items spare stat tape taped fk fp mat mst tok mval W past nac imgs kept q1.1 q1.2 q5.2 setsv (q5.2 0) mlo mal mpr lak trc ntr)) b (modL b lane many items spare stat tape taped fk fp mat mst tok mval W past nac imgs kept q1.1 q1.2 q5.2 setsv (q5.2 0) mlo mal mpr lak trc ntr) := ov_isV
          refine r_aload_n X 0 dX8_finds_228 rfl ?_
          refine gf_X8_53 X dX8_finds_229 (hv_b 0 _ rfl) rfl ?_
          refine r_iload X 4 dX8_finds_232 rfl ?_
          refine r_iload X 5 dX8_finds_234 rfl ?_
          refine r_iastn X (k0 := y6) dX8_finds_236 (hv_b 15 _ rfl) (by omega) (by first | decide | omega) ?_
          refine SW.heq (h2 := (ov h b (modL b lane many items spare stat tape taped fk fp mat mst tok mval W past nac imgs kept q1.1 q1.2 q5.2 (upd setsv y6 (nI (f_Model_finds_L193 W q1.2 q5.2 wi U lost y5 y6 (2 ^ U + 1) 0))) (q5.2 0) mlo mal mpr lak trc ntr))) (ov_up 15 (Nat.le_of_ble_eq_true rfl) rfl) ?_
          have hv_b : isV (ov h b (modL b lane many items spare stat tape taped fk fp mat mst tok mval W past nac imgs kept q1.1 q1.2 q5.2 (upd setsv y6 (nI (f_Model_finds_L193 W q1.2 q5.2 wi U lost y5 y6 (2 ^ U + 1) 0))) (q5.2 0) mlo mal mpr lak trc ntr)) b (modL b lane many items spare stat tape taped fk fp mat mst tok mval W past nac imgs kept q1.1 q1.2 q5.2 (upd setsv y6 (nI (f_Model_finds_L193 W q1.2 q5.2 wi U lost y5 y6 (2 ^ U + 1) 0))) (q5.2 0) mlo mal mpr lak trc ntr) := ov_isV
          refine r_aload_n X 1 dX8_finds_237 rfl ?_
          refine r_iload X 3 dX8_finds_238 rfl ?_
          refine r_iload X 5 dX8_finds_240 rfl ?_
          refine r_iload_n X 2 dX8_finds_242 rfl ?_
          refine cl_X8_213 X (by decide) dX8_finds_243 (Nat.le_of_ble_eq_true rfl) (c_Model_nextOf (isV1 (hv_b (6 + wi) _ (modL_W (by omega)))) (by first | assumption | omega) (by first | assumption | omega) (by first | assumption | omega)) ?_
          refine r_istore [(0, .ref b), (1, .ref (b + (6 + wi))), (2, .int lost), (5, .int (f_Model_nextOf (W wi) y5 (nI (f_Model_finds_L193 W q1.2 q5.2 wi U lost y5 y6 (2 ^ U + 1) 0)) lost U)), (6, .int (nI y6)), (7, .int (nI (f_Model_finds_L193 W q1.2 q5.2 wi U lost y5 y6 (2 ^ U + 1) 0)))] X dX8_finds_246 (by decide) rfl ?_
          obtain ⟨g, hg, eg⟩ := fd_next hU (fd_find (2 ^ U + 1) 0 hx (by omega)) (hi0.2.2 cb)
          rw [eg]
          try rw [eg] at hf
          try simp only [nI_clamp (show g < 2 ^ 31 by omega)] at hf
          refine r_iinc [(0, .ref b), (1, .ref (b + (6 + wi))), (2, .int lost), (5, .int (nI g)), (6, .int (nI (y6 + 1))), (7, .int (nI (f_Model_finds_L193 W q1.2 q5.2 wi U lost y5 y6 (2 ^ U + 1) 0)))] X (nI (y6 + 1)) 4 dX8_finds_248 rfl (nI_succ _).symm (by decide) rfl ?_
          refine r_goto X 173 dX8_finds_251 rfl ?_
          refine SW.pick [0, 1, 2, 3, 4] [(0, .ref b), (1, .ref (b + (6 + wi))), (2, .int lost), (5, .int (nI g)), (6, .int (nI (y6 + 1)))] rfl ?_
          exact ih _ _ _ ⟨by omega, hg.1, fun _ => hg.2⟩ (by omega) (by rw [hf]; exact K)
  refine wl25 (Hh + 1) 0 0 sets ⟨Nat.zero_le _, Nat.pow_pos (by decide), fun a => ne_of_lt32 a⟩ (by omega) (fun hi => ?_)
  obtain ⟨q6, eq6⟩ : ∃ q, q = f_Model_finds_L173 W q1.2 q5.2 (q5.2 0) wi U Hh lost (Hh + 1) 0 0 sets := ⟨_, rfl⟩
  rw [← eq6]
  rw [← eq6] at hf
  rw [lt_eq] at hf
  rw [← eq6] at hi
  have hv_b : isV (ov h b (modL b lane many items spare stat tape taped fk fp mat mst tok mval W past nac imgs kept q1.1 q1.2 q5.2 q6.2.2 (q5.2 0) mlo mal mpr lak trc ntr)) b (modL b lane many items spare stat tape taped fk fp mat mst tok mval W past nac imgs kept q1.1 q1.2 q5.2 q6.2.2 (q5.2 0) mlo mal mpr lak trc ntr) := ov_isV
  try subst hf
  exact r_return X Y dX8_finds_254 rfl rfl

def f_Model_bestCost (W : Nat → Nat → Int32) (gvn : Nat → Int32) (costs : Nat → Int32) (lst : Nat → Int32) (sets : Nat → Int32) (lost : Int32) (wi : Nat) (U : Nat) (Hh : Nat) : Int32 × (Nat → Int32) × (Nat → Int32) × (Nat → Int32) × (Nat → Int32) × Int32 := (lt_ (f_Model_finds W gvn costs lst sets lost wi U Hh) (fun q1 => (if q1.2.2.2.2 = (100000000 : Int32) then (-1000000 : Int32) else q1.2.2.2.2, q1.1, q1.2.1, q1.2.2.1, q1.2.2.2.1, q1.2.2.2.2)))
set_option maxRecDepth 20000 in
set_option maxHeartbeats 4000000 in
theorem c_Model_bestCost {G : mG} {h : mHp} {b : Nat} {lane : Nat → Int32} {many : Nat → Nat} {items : Nat → Int32} {spare : Nat → Int32} {stat : Int32} {tape : Nat → Int32} {taped : Nat} {fk : Int32} {fp : Int32} {mat : Nat} {mst : Nat} {tok : Int32} {mval : Int32} {W : Nat → Nat → Int32} {past : Nat → Int32} {nac : Nat} {imgs : Nat → Int32} {kept : Nat → Int32} {gvn : Nat → Int32} {costs : Nat → Int32} {lst : Nat → Int32} {sets : Nat → Int32} {bst : Int32} {mlo : Int64} {mal : Int32} {mpr : Nat → Int64} {lak : Nat → Int64} {trc : Nat → Int32} {ntr : Nat} {lost : Int32} {wi : Nat} {U : Nat} {Hh : Nat}   (hwi : wi < 3) (h0 : W wi 0 = nI U) (hU : U ≤ 4) (h1 : W wi 1 = nI Hh) (hH : Hh ≤ 6) : Ret G 6 mX8_bestCost [.ref b, .ref (b + (6 + wi)), .int lost] (ov h b (modL b lane many items spare stat tape taped fk fp mat mst tok mval W past nac imgs kept gvn costs lst sets bst mlo mal mpr lak trc ntr)) (some (.int (f_Model_bestCost W gvn costs lst sets lost wi U Hh).1)) (ov h b (modL b lane many items spare stat tape taped fk fp mat mst tok mval W past nac imgs kept (f_Model_bestCost W gvn costs lst sets lost wi U Hh).2.1 (f_Model_bestCost W gvn costs lst sets lost wi U Hh).2.2.1 (f_Model_bestCost W gvn costs lst sets lost wi U Hh).2.2.2.1 (f_Model_bestCost W gvn costs lst sets lost wi U Hh).2.2.2.2.1 (f_Model_bestCost W gvn costs lst sets lost wi U Hh).2.2.2.2.2 mlo mal mpr lak trc ntr)) := by
  generalize hf : f_Model_bestCost W gvn costs lst sets lost wi U Hh = R
  unfold f_Model_bestCost at hf
  refine Ret.of [(0, .ref b), (1, .ref (b + (6 + wi))), (2, .int lost)] (by decide) (Nat.le_of_ble_eq_true rfl) rfl ?_
  rintro Z rfl X Y
  have hv_b : isV (ov h b (modL b lane many items spare stat tape taped fk fp mat mst tok mval W past nac imgs kept gvn costs lst sets bst mlo mal mpr lak trc ntr)) b (modL b lane many items spare stat tape taped fk fp mat mst tok mval W past nac imgs kept gvn costs lst sets bst mlo mal mpr lak trc ntr) := ov_isV
  refine r_aload_n X 0 dX8_bestCost_0 rfl ?_
  refine r_aload_n X 1 dX8_bestCost_1 rfl ?_
  refine r_iload_n X 2 dX8_bestCost_2 rfl ?_
  refine cl_X8_216 X (by decide) dX8_bestCost_3 (Nat.le_of_ble_eq_true rfl) (hv_b 0 _ rfl) (c_Model_finds  (by first | assumption | omega) (by first | assumption | omega) (by first | assumption | omega) (by first | assumption | omega) (by first | assumption | omega)) ?_
  obtain ⟨q1, eq1⟩ : ∃ q, q = f_Model_finds W gvn costs lst sets lost wi U Hh := ⟨_, rfl⟩
  rw [← eq1]
  rw [← eq1] at hf
  rw [lt_eq] at hf
  have hv_b : isV (ov h b (modL b lane many items spare stat tape taped fk fp mat mst tok mval W past nac imgs kept q1.1 q1.2.1 q1.2.2.1 q1.2.2.2.1 q1.2.2.2.2 mlo mal mpr lak trc ntr)) b (modL b lane many items spare stat tape taped fk fp mat mst tok mval W past nac imgs kept q1.1 q1.2.1 q1.2.2.1 q1.2.2.2.1 q1.2.2.2.2 mlo mal mpr lak trc ntr) := ov_isV
  refine r_aload_n X 0 dX8_bestCost_6 rfl ?_
  refine gf_X8_210 X dX8_bestCost_7 (hv_b 0 _ rfl) rfl ?_
  refine r_ldc X dX8_bestCost_10 kk_X8_193 ?_
  refine m_join (P := SW Z 24 [] [.int (if q1.2.2.2.2 = (100000000 : Int32) then (-1000000 : Int32) else q1.2.2.2.2)] (ov h b (modL b lane many items spare stat tape taped fk fp mat mst tok mval W past nac imgs kept q1.1 q1.2.1 q1.2.2.1 q1.2.2.2.1 q1.2.2.2.2 mlo mal mpr lak trc ntr))) (fun K => ?_) ?_
  · refine r_icmp_ne X 20 dX8_bestCost_12 rfl (fun c1 => ?_) (fun c1 => ?_)
    · skip
      refine r_aload_n X 0 dX8_bestCost_20 rfl ?_
      refine gf_X8_210 X dX8_bestCost_21 (hv_b 0 _ rfl) rfl ?_
      refine SW.pick [] [] rfl ?_
      try simp only [if_neg c1] at K ⊢
      exact K
    · skip
      refine r_ldc X dX8_bestCost_15 kk_X8_66 ?_
      refine r_goto X 24 dX8_bestCost_17 rfl ?_
      refine SW.pick [] [] rfl ?_
      try simp only [if_pos c1] at K ⊢
      exact K
  have hv_b : isV (ov h b (modL b lane many items spare stat tape taped fk fp mat mst tok mval W past nac imgs kept q1.1 q1.2.1 q1.2.2.1 q1.2.2.2.1 q1.2.2.2.2 mlo mal mpr lak trc ntr)) b (modL b lane many items spare stat tape taped fk fp mat mst tok mval W past nac imgs kept q1.1 q1.2.1 q1.2.2.1 q1.2.2.2.1 q1.2.2.2.2 mlo mal mpr lak trc ntr) := ov_isV
  try subst hf
  exact r_ireturn X Y dX8_bestCost_24 rfl rfl
