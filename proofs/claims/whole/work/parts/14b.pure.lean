theorem cpy_lt {α : Type} {f g : Nat → α} {n k : Nat} (h : k < n) : va_cpy f g 0 0 n k = f k := by
  unfold va_cpy
  rw [iteT (show 0 ≤ k ∧ k < 0 + n from ⟨Nat.zero_le _, by omega⟩), Nat.zero_add, Nat.sub_zero]
theorem mD_up {f : Nat → Int32} {P : Nat → Nat} {p v : Nat} (h : mD f P) : mD (va_up f p (nI v)) (va_up P p v) := by
  intro k hk
  by_cases c : k = p
  · rw [c, vu_self, vu_self]
  · rw [vu_ne c, vu_ne c]; exact h k hk
theorem cD_like {P : Nat → Nat} {dem kin low hig pri sta ups dow onn flo sro sco : Nat → Int32} {ord : Nat → Nat} {H2 U2 : Nat} {res2 : Int32} {dem2 kin2 low2 hig2 pri2 sta2 ups2 dow2 onn2 : Nat → Int32} {R : Nat × Nat × Int32 × (Nat → Int32) × (Nat → Int32) × (Nat → Int32) × (Nat → Int32) × (Nat → Int32) × (Nat → Int32) × (Nat → Int32) × (Nat → Int32) × (Nat → Int32) × (Nat → Nat) × (Nat → Int32) × (Nat → Int32) × (Nat → Int32)} (hP : nOK P) (hc : cD P H2 U2 res2 dem2 kin2 low2 hig2 pri2 sta2 ups2 dow2 onn2) (hO : ∀ j, j < 4 → ord j < 4)
    (hR : f_Day_becomeLike dem kin low hig pri sta ups dow onn ord flo sro sco H2 U2 res2 dem2 kin2 low2 hig2 pri2 sta2 ups2 dow2 onn2 = R) :
    cD P R.1 R.2.1 R.2.2.1 R.2.2.2.1 R.2.2.2.2.1 R.2.2.2.2.2.1 R.2.2.2.2.2.2.1 R.2.2.2.2.2.2.2.1 R.2.2.2.2.2.2.2.2.1 R.2.2.2.2.2.2.2.2.2.1 R.2.2.2.2.2.2.2.2.2.2.1 R.2.2.2.2.2.2.2.2.2.2.2.1 ∧ cS P R.2.2.2.2.2.2.2.2.2.2.2.2.1 R.2.2.2.2.2.2.2.2.2.2.2.2.2.1 R.2.2.2.2.2.2.2.2.2.2.2.2.2.2.1 R.2.2.2.2.2.2.2.2.2.2.2.2.2.2.2 := by
  subst hR
  have hP0 := hP
  obtain ⟨h0, h1, h2, h3, h4, h5⟩ := hP
  obtain ⟨e1, e2, c2, c3, c4⟩ := hc
  have hc2 : cD P H2 U2 res2 (va_cpy dem2 dem 0 0 6) (va_cpy kin2 kin 0 0 4) (va_cpy low2 low 0 0 4) (va_cpy hig2 hig 0 0 4) (va_cpy pri2 pri 0 0 4) (va_cpy sta2 sta 0 0 4) (va_cpy ups2 ups 0 0 4) (va_cpy dow2 dow 0 0 4) (va_cpy onn2 onn 0 0 4) := by
    refine ⟨e1, e2, c2, fun h hh => ?_, fun u hu => ?_⟩
    · rw [cpy_lt (by omega)]; exact c3 h hh
    · have hu4 : u < 4 := by omega
      rw [cpy_lt hu4, cpy_lt hu4, cpy_lt hu4, cpy_lt hu4, cpy_lt hu4, cpy_lt hu4, cpy_lt hu4, cpy_lt hu4]
      exact c4 u hu
  exact ⟨hc2, settle_S hP0 hc2 hO⟩
theorem nOK_kind {P : Nat → Nat} {u v : Nat} (hP : nOK P) (hu : u < P 0) (hv : 1 ≤ v ∧ v ≤ 5) : nOK (va_up P (9 + (8 * u)) v) := by
  obtain ⟨h0, h1, h2, h3, h4, h5⟩ := hP
  have z0 : va_up P (9 + (8 * u)) v 0 = P 0 := vu_ne (by omega)
  have z1 : va_up P (9 + (8 * u)) v 1 = P 1 := vu_ne (by omega)
  have z2 : va_up P (9 + (8 * u)) v 2 = P 2 := vu_ne (by omega)
  unfold nOK nOKb
  rw [z0, z1, z2]
  refine ⟨h0, h1, h2, h3, fun h hh => ?_, fun w hw => ?_⟩
  · rw [vu_ne (by omega)]; exact h4 h hh
  · unfold nOKu
    rw [z1]
    by_cases c : w = u
    · subst c
      rw [vu_ne (show (9 + (8 * w)) + 1 ≠ 9 + (8 * w) by omega), vu_ne (show (9 + (8 * w)) + 2 ≠ 9 + (8 * w) by omega), vu_ne (show (9 + (8 * w)) + 3 ≠ 9 + (8 * w) by omega), vu_ne (show (9 + (8 * w)) + 4 ≠ 9 + (8 * w) by omega), vu_ne (show (9 + (8 * w)) + 5 ≠ 9 + (8 * w) by omega), vu_ne (show (9 + (8 * w)) + 6 ≠ 9 + (8 * w) by omega), vu_ne (show (9 + (8 * w)) + 7 ≠ 9 + (8 * w) by omega), vu_self]
      obtain ⟨g1, g2, g3, g4, g5, g6, g7, g8, g9⟩ := h5 w hw
      exact ⟨hv, g2, g3, g4, g5, g6, g7, g8, g9⟩
    · rw [vu_ne (show 9 + (8 * w) ≠ 9 + (8 * u) by omega), vu_ne (show (9 + (8 * w)) + 1 ≠ 9 + (8 * u) by omega), vu_ne (show (9 + (8 * w)) + 2 ≠ 9 + (8 * u) by omega), vu_ne (show (9 + (8 * w)) + 3 ≠ 9 + (8 * u) by omega), vu_ne (show (9 + (8 * w)) + 4 ≠ 9 + (8 * u) by omega), vu_ne (show (9 + (8 * w)) + 5 ≠ 9 + (8 * u) by omega), vu_ne (show (9 + (8 * w)) + 6 ≠ 9 + (8 * u) by omega), vu_ne (show (9 + (8 * w)) + 7 ≠ 9 + (8 * u) by omega)]
      exact h5 w hw
theorem nOK_price {P : Nat → Nat} {u v : Nat} (hP : nOK P) (hu : u < P 0) (hv : 1 ≤ v ∧ v ≤ 9) : nOK (va_up P ((9 + (8 * u)) + 3) v) := by
  obtain ⟨h0, h1, h2, h3, h4, h5⟩ := hP
  have z0 : va_up P ((9 + (8 * u)) + 3) v 0 = P 0 := vu_ne (by omega)
  have z1 : va_up P ((9 + (8 * u)) + 3) v 1 = P 1 := vu_ne (by omega)
  have z2 : va_up P ((9 + (8 * u)) + 3) v 2 = P 2 := vu_ne (by omega)
  unfold nOK nOKb
  rw [z0, z1, z2]
  refine ⟨h0, h1, h2, h3, fun h hh => ?_, fun w hw => ?_⟩
  · rw [vu_ne (by omega)]; exact h4 h hh
  · unfold nOKu
    rw [z1]
    by_cases c : w = u
    · subst c
      rw [vu_ne (show 9 + (8 * w) ≠ (9 + (8 * w)) + 3 by omega), vu_ne (show (9 + (8 * w)) + 1 ≠ (9 + (8 * w)) + 3 by omega), vu_ne (show (9 + (8 * w)) + 2 ≠ (9 + (8 * w)) + 3 by omega), vu_ne (show (9 + (8 * w)) + 4 ≠ (9 + (8 * w)) + 3 by omega), vu_ne (show (9 + (8 * w)) + 5 ≠ (9 + (8 * w)) + 3 by omega), vu_ne (show (9 + (8 * w)) + 6 ≠ (9 + (8 * w)) + 3 by omega), vu_ne (show (9 + (8 * w)) + 7 ≠ (9 + (8 * w)) + 3 by omega), vu_self]
      obtain ⟨g1, g2, g3, g4, g5, g6, g7, g8, g9⟩ := h5 w hw
      exact ⟨g1, g2, g3, g4, hv, g6, g7, g8, g9⟩
    · rw [vu_ne (show 9 + (8 * w) ≠ (9 + (8 * u)) + 3 by omega), vu_ne (show (9 + (8 * w)) + 1 ≠ (9 + (8 * u)) + 3 by omega), vu_ne (show (9 + (8 * w)) + 2 ≠ (9 + (8 * u)) + 3 by omega), vu_ne (show (9 + (8 * w)) + 3 ≠ (9 + (8 * u)) + 3 by omega), vu_ne (show (9 + (8 * w)) + 4 ≠ (9 + (8 * u)) + 3 by omega), vu_ne (show (9 + (8 * w)) + 5 ≠ (9 + (8 * u)) + 3 by omega), vu_ne (show (9 + (8 * w)) + 6 ≠ (9 + (8 * u)) + 3 by omega), vu_ne (show (9 + (8 * w)) + 7 ≠ (9 + (8 * u)) + 3 by omega)]
      exact h5 w hw
theorem nOK_on {P : Nat → Nat} {u v : Nat} (hP : nOK P) (hu : u < P 0) (hv : v < 2 ^ (P 1)) : nOK (va_up P ((9 + (8 * u)) + 7) v) := by
  obtain ⟨h0, h1, h2, h3, h4, h5⟩ := hP
  have z0 : va_up P ((9 + (8 * u)) + 7) v 0 = P 0 := vu_ne (by omega)
  have z1 : va_up P ((9 + (8 * u)) + 7) v 1 = P 1 := vu_ne (by omega)
  have z2 : va_up P ((9 + (8 * u)) + 7) v 2 = P 2 := vu_ne (by omega)
  unfold nOK nOKb
  rw [z0, z1, z2]
  refine ⟨h0, h1, h2, h3, fun h hh => ?_, fun w hw => ?_⟩
  · rw [vu_ne (by omega)]; exact h4 h hh
  · unfold nOKu
    rw [z1]
    by_cases c : w = u
    · subst c
      rw [vu_ne (show 9 + (8 * w) ≠ (9 + (8 * w)) + 7 by omega), vu_ne (show (9 + (8 * w)) + 1 ≠ (9 + (8 * w)) + 7 by omega), vu_ne (show (9 + (8 * w)) + 2 ≠ (9 + (8 * w)) + 7 by omega), vu_ne (show (9 + (8 * w)) + 3 ≠ (9 + (8 * w)) + 7 by omega), vu_ne (show (9 + (8 * w)) + 4 ≠ (9 + (8 * w)) + 7 by omega), vu_ne (show (9 + (8 * w)) + 5 ≠ (9 + (8 * w)) + 7 by omega), vu_ne (show (9 + (8 * w)) + 6 ≠ (9 + (8 * w)) + 7 by omega), vu_self]
      obtain ⟨g1, g2, g3, g4, g5, g6, g7, g8, g9⟩ := h5 w hw
      exact ⟨g1, g2, g3, g4, g5, g6, g7, g8, hv⟩
    · rw [vu_ne (show 9 + (8 * w) ≠ (9 + (8 * u)) + 7 by omega), vu_ne (show (9 + (8 * w)) + 1 ≠ (9 + (8 * u)) + 7 by omega), vu_ne (show (9 + (8 * w)) + 2 ≠ (9 + (8 * u)) + 7 by omega), vu_ne (show (9 + (8 * w)) + 3 ≠ (9 + (8 * u)) + 7 by omega), vu_ne (show (9 + (8 * w)) + 4 ≠ (9 + (8 * u)) + 7 by omega), vu_ne (show (9 + (8 * w)) + 5 ≠ (9 + (8 * u)) + 7 by omega), vu_ne (show (9 + (8 * w)) + 6 ≠ (9 + (8 * u)) + 7 by omega), vu_ne (show (9 + (8 * w)) + 7 ≠ (9 + (8 * u)) + 7 by omega)]
      exact h5 w hw
theorem nOKb_dem {B : Nat} {P : Nat → Nat} {h v : Nat} (hP : nOK P) (hB : 60 ≤ B) (hh : h < P 1) (hv : v ≤ B) : nOKb B (va_up P (3 + h) v) := by
  obtain ⟨h0, h1, h2, h3, h4, h5⟩ := hP
  have z0 : va_up P (3 + h) v 0 = P 0 := vu_ne (by omega)
  have z1 : va_up P (3 + h) v 1 = P 1 := vu_ne (by omega)
  have z2 : va_up P (3 + h) v 2 = P 2 := vu_ne (by omega)
  unfold nOKb
  rw [z0, z1, z2]
  refine ⟨h0, h1, h2, h3, fun k hk => ?_, fun w hw => ?_⟩
  · by_cases c : k = h
    · rw [c, vu_self]; exact hv
    · rw [vu_ne (by omega)]; exact Nat.le_trans (h4 k hk) hB
  · unfold nOKu
    rw [z1, vu_ne (show 9 + (8 * w) ≠ 3 + h by omega), vu_ne (show (9 + (8 * w)) + 1 ≠ 3 + h by omega), vu_ne (show (9 + (8 * w)) + 2 ≠ 3 + h by omega), vu_ne (show (9 + (8 * w)) + 3 ≠ 3 + h by omega), vu_ne (show (9 + (8 * w)) + 4 ≠ 3 + h by omega), vu_ne (show (9 + (8 * w)) + 5 ≠ 3 + h by omega), vu_ne (show (9 + (8 * w)) + 6 ≠ 3 + h by omega), vu_ne (show (9 + (8 * w)) + 7 ≠ 3 + h by omega)]
    exact h5 w hw
theorem nOK_dem {P : Nat → Nat} {h v : Nat} (hP : nOK P) (hh : h < P 1) (hv : v ≤ 60) : nOK (va_up P (3 + h) v) := nOKb_dem hP (Nat.le_refl _) hh hv
theorem nOK_res {P : Nat → Nat} {v : Nat} (hP : nOK P) (hv : v ≤ 20) : nOK (va_up P 2 v) := by
  obtain ⟨h0, h1, h2, h3, h4, h5⟩ := hP
  have z0 : va_up P 2 v 0 = P 0 := vu_ne (by omega)
  have z1 : va_up P 2 v 1 = P 1 := vu_ne (by omega)
  unfold nOK nOKb
  rw [z0, z1, vu_self]
  refine ⟨h0, h1, h2, hv, fun k hk => ?_, fun w hw => ?_⟩
  · rw [vu_ne (by omega)]; exact h4 k hk
  · unfold nOKu
    rw [z1, vu_ne (show 9 + (8 * w) ≠ 2 by omega), vu_ne (show (9 + (8 * w)) + 1 ≠ 2 by omega), vu_ne (show (9 + (8 * w)) + 2 ≠ 2 by omega), vu_ne (show (9 + (8 * w)) + 3 ≠ 2 by omega), vu_ne (show (9 + (8 * w)) + 4 ≠ 2 by omega), vu_ne (show (9 + (8 * w)) + 5 ≠ 2 by omega), vu_ne (show (9 + (8 * w)) + 6 ≠ 2 by omega), vu_ne (show (9 + (8 * w)) + 7 ≠ 2 by omega)]
    exact h5 w hw
theorem cD_kind {P : Nat → Nat} {H U : Nat} {res : Int32} {dem kin low hig pri sta ups dow onn : Nat → Int32} {u v : Nat} (hc : cD P H U res dem kin low hig pri sta ups dow onn) (hp : P 1 ≤ 6) : cD (va_up P (9 + (8 * u)) v) H U res dem (va_up kin u (nI v)) low hig pri sta ups dow onn := by
  obtain ⟨e1, e2, c2, c3, c4⟩ := hc
  have z0 : va_up P (9 + (8 * u)) v 0 = P 0 := vu_ne (by omega)
  have z1 : va_up P (9 + (8 * u)) v 1 = P 1 := vu_ne (by omega)
  have z2 : va_up P (9 + (8 * u)) v 2 = P 2 := vu_ne (by omega)
  unfold cD
  rw [z0, z1, z2]
  refine ⟨e1, e2, c2, fun h hh => ?_, fun w hw => ?_⟩
  · rw [vu_ne (by omega)]; exact c3 h hh
  · obtain ⟨k0, k1, k2, k3, k4, k5, k6, k7⟩ := c4 w hw
    by_cases c : w = u
    · subst c
      rw [vu_ne (show (9 + (8 * w)) + 1 ≠ 9 + (8 * w) by omega), vu_ne (show (9 + (8 * w)) + 2 ≠ 9 + (8 * w) by omega), vu_ne (show (9 + (8 * w)) + 3 ≠ 9 + (8 * w) by omega), vu_ne (show (9 + (8 * w)) + 4 ≠ 9 + (8 * w) by omega), vu_ne (show (9 + (8 * w)) + 5 ≠ 9 + (8 * w) by omega), vu_ne (show (9 + (8 * w)) + 6 ≠ 9 + (8 * w) by omega), vu_ne (show (9 + (8 * w)) + 7 ≠ 9 + (8 * w) by omega), vu_self, vu_self]
      exact ⟨rfl, k1, k2, k3, k4, k5, k6, k7⟩
    · rw [vu_ne (show 9 + (8 * w) ≠ 9 + (8 * u) by omega), vu_ne (show (9 + (8 * w)) + 1 ≠ 9 + (8 * u) by omega), vu_ne (show (9 + (8 * w)) + 2 ≠ 9 + (8 * u) by omega), vu_ne (show (9 + (8 * w)) + 3 ≠ 9 + (8 * u) by omega), vu_ne (show (9 + (8 * w)) + 4 ≠ 9 + (8 * u) by omega), vu_ne (show (9 + (8 * w)) + 5 ≠ 9 + (8 * u) by omega), vu_ne (show (9 + (8 * w)) + 6 ≠ 9 + (8 * u) by omega), vu_ne (show (9 + (8 * w)) + 7 ≠ 9 + (8 * u) by omega), vu_ne c]
      exact ⟨k0, k1, k2, k3, k4, k5, k6, k7⟩
theorem cD_price {P : Nat → Nat} {H U : Nat} {res : Int32} {dem kin low hig pri sta ups dow onn : Nat → Int32} {u v : Nat} (hc : cD P H U res dem kin low hig pri sta ups dow onn) (hp : P 1 ≤ 6) : cD (va_up P ((9 + (8 * u)) + 3) v) H U res dem kin low hig (va_up pri u (nI v)) sta ups dow onn := by
  obtain ⟨e1, e2, c2, c3, c4⟩ := hc
  have z0 : va_up P ((9 + (8 * u)) + 3) v 0 = P 0 := vu_ne (by omega)
  have z1 : va_up P ((9 + (8 * u)) + 3) v 1 = P 1 := vu_ne (by omega)
  have z2 : va_up P ((9 + (8 * u)) + 3) v 2 = P 2 := vu_ne (by omega)
  unfold cD
  rw [z0, z1, z2]
  refine ⟨e1, e2, c2, fun h hh => ?_, fun w hw => ?_⟩
  · rw [vu_ne (by omega)]; exact c3 h hh
  · obtain ⟨k0, k1, k2, k3, k4, k5, k6, k7⟩ := c4 w hw
    by_cases c : w = u
    · subst c
      rw [vu_ne (show 9 + (8 * w) ≠ (9 + (8 * w)) + 3 by omega), vu_ne (show (9 + (8 * w)) + 1 ≠ (9 + (8 * w)) + 3 by omega), vu_ne (show (9 + (8 * w)) + 2 ≠ (9 + (8 * w)) + 3 by omega), vu_ne (show (9 + (8 * w)) + 4 ≠ (9 + (8 * w)) + 3 by omega), vu_ne (show (9 + (8 * w)) + 5 ≠ (9 + (8 * w)) + 3 by omega), vu_ne (show (9 + (8 * w)) + 6 ≠ (9 + (8 * w)) + 3 by omega), vu_ne (show (9 + (8 * w)) + 7 ≠ (9 + (8 * w)) + 3 by omega), vu_self, vu_self]
      exact ⟨k0, k1, k2, rfl, k4, k5, k6, k7⟩
    · rw [vu_ne (show 9 + (8 * w) ≠ (9 + (8 * u)) + 3 by omega), vu_ne (show (9 + (8 * w)) + 1 ≠ (9 + (8 * u)) + 3 by omega), vu_ne (show (9 + (8 * w)) + 2 ≠ (9 + (8 * u)) + 3 by omega), vu_ne (show (9 + (8 * w)) + 3 ≠ (9 + (8 * u)) + 3 by omega), vu_ne (show (9 + (8 * w)) + 4 ≠ (9 + (8 * u)) + 3 by omega), vu_ne (show (9 + (8 * w)) + 5 ≠ (9 + (8 * u)) + 3 by omega), vu_ne (show (9 + (8 * w)) + 6 ≠ (9 + (8 * u)) + 3 by omega), vu_ne (show (9 + (8 * w)) + 7 ≠ (9 + (8 * u)) + 3 by omega), vu_ne c]
      exact ⟨k0, k1, k2, k3, k4, k5, k6, k7⟩
theorem cD_on {P : Nat → Nat} {H U : Nat} {res : Int32} {dem kin low hig pri sta ups dow onn : Nat → Int32} {u v : Nat} (hc : cD P H U res dem kin low hig pri sta ups dow onn) (hp : P 1 ≤ 6) : cD (va_up P ((9 + (8 * u)) + 7) v) H U res dem kin low hig pri sta ups dow (va_up onn u (nI v)) := by
  obtain ⟨e1, e2, c2, c3, c4⟩ := hc
  have z0 : va_up P ((9 + (8 * u)) + 7) v 0 = P 0 := vu_ne (by omega)
  have z1 : va_up P ((9 + (8 * u)) + 7) v 1 = P 1 := vu_ne (by omega)
  have z2 : va_up P ((9 + (8 * u)) + 7) v 2 = P 2 := vu_ne (by omega)
  unfold cD
  rw [z0, z1, z2]
  refine ⟨e1, e2, c2, fun h hh => ?_, fun w hw => ?_⟩
  · rw [vu_ne (by omega)]; exact c3 h hh
  · obtain ⟨k0, k1, k2, k3, k4, k5, k6, k7⟩ := c4 w hw
    by_cases c : w = u
    · subst c
      rw [vu_ne (show 9 + (8 * w) ≠ (9 + (8 * w)) + 7 by omega), vu_ne (show (9 + (8 * w)) + 1 ≠ (9 + (8 * w)) + 7 by omega), vu_ne (show (9 + (8 * w)) + 2 ≠ (9 + (8 * w)) + 7 by omega), vu_ne (show (9 + (8 * w)) + 3 ≠ (9 + (8 * w)) + 7 by omega), vu_ne (show (9 + (8 * w)) + 4 ≠ (9 + (8 * w)) + 7 by omega), vu_ne (show (9 + (8 * w)) + 5 ≠ (9 + (8 * w)) + 7 by omega), vu_ne (show (9 + (8 * w)) + 6 ≠ (9 + (8 * w)) + 7 by omega), vu_self, vu_self]
      exact ⟨k0, k1, k2, k3, k4, k5, k6, rfl⟩
    · rw [vu_ne (show 9 + (8 * w) ≠ (9 + (8 * u)) + 7 by omega), vu_ne (show (9 + (8 * w)) + 1 ≠ (9 + (8 * u)) + 7 by omega), vu_ne (show (9 + (8 * w)) + 2 ≠ (9 + (8 * u)) + 7 by omega), vu_ne (show (9 + (8 * w)) + 3 ≠ (9 + (8 * u)) + 7 by omega), vu_ne (show (9 + (8 * w)) + 4 ≠ (9 + (8 * u)) + 7 by omega), vu_ne (show (9 + (8 * w)) + 5 ≠ (9 + (8 * u)) + 7 by omega), vu_ne (show (9 + (8 * w)) + 6 ≠ (9 + (8 * u)) + 7 by omega), vu_ne (show (9 + (8 * w)) + 7 ≠ (9 + (8 * u)) + 7 by omega), vu_ne c]
      exact ⟨k0, k1, k2, k3, k4, k5, k6, k7⟩
theorem cD_dem {P : Nat → Nat} {H U : Nat} {res : Int32} {dem kin low hig pri sta ups dow onn : Nat → Int32} {h v : Nat} (hc : cD P H U res dem kin low hig pri sta ups dow onn) (hh : h < P 1) (hp : P 1 ≤ 6) : cD (va_up P (3 + h) v) H U res (va_up dem h (nI v)) kin low hig pri sta ups dow onn := by
  obtain ⟨e1, e2, c2, c3, c4⟩ := hc
  have z0 : va_up P (3 + h) v 0 = P 0 := vu_ne (by omega)
  have z1 : va_up P (3 + h) v 1 = P 1 := vu_ne (by omega)
  have z2 : va_up P (3 + h) v 2 = P 2 := vu_ne (by omega)
  unfold cD
  rw [z0, z1, z2]
  refine ⟨e1, e2, c2, fun k hk => ?_, fun w hw => ?_⟩
  · by_cases c : k = h
    · rw [c, vu_self, vu_self]
    · rw [vu_ne (by omega), vu_ne (by omega)]; exact c3 k hk
  · rw [vu_ne (show 9 + (8 * w) ≠ 3 + h by omega), vu_ne (show (9 + (8 * w)) + 1 ≠ 3 + h by omega), vu_ne (show (9 + (8 * w)) + 2 ≠ 3 + h by omega), vu_ne (show (9 + (8 * w)) + 3 ≠ 3 + h by omega), vu_ne (show (9 + (8 * w)) + 4 ≠ 3 + h by omega), vu_ne (show (9 + (8 * w)) + 5 ≠ 3 + h by omega), vu_ne (show (9 + (8 * w)) + 6 ≠ 3 + h by omega), vu_ne (show (9 + (8 * w)) + 7 ≠ 3 + h by omega)]
    exact c4 w hw
theorem cD_res {P : Nat → Nat} {H U : Nat} {res : Int32} {dem kin low hig pri sta ups dow onn : Nat → Int32} {v : Nat} (hc : cD P H U res dem kin low hig pri sta ups dow onn) : cD (va_up P 2 v) H U (nI v) dem kin low hig pri sta ups dow onn := by
  obtain ⟨e1, e2, c2, c3, c4⟩ := hc
  have z0 : va_up P 2 v 0 = P 0 := vu_ne (by omega)
  have z1 : va_up P 2 v 1 = P 1 := vu_ne (by omega)
  unfold cD
  rw [z0, z1, vu_self]
  refine ⟨e1, e2, rfl, fun k hk => ?_, fun w hw => ?_⟩
  · rw [vu_ne (by omega)]; exact c3 k hk
  · rw [vu_ne (show 9 + (8 * w) ≠ 2 by omega), vu_ne (show (9 + (8 * w)) + 1 ≠ 2 by omega), vu_ne (show (9 + (8 * w)) + 2 ≠ 2 by omega), vu_ne (show (9 + (8 * w)) + 3 ≠ 2 by omega), vu_ne (show (9 + (8 * w)) + 4 ≠ 2 by omega), vu_ne (show (9 + (8 * w)) + 5 ≠ 2 by omega), vu_ne (show (9 + (8 * w)) + 6 ≠ 2 by omega), vu_ne (show (9 + (8 * w)) + 7 ≠ 2 by omega)]
    exact c4 w hw
theorem cS_congr {P Q : Nat → Nat} {ord : Nat → Nat} {flo sro sco : Nat → Int32} (h0 : Q 0 = P 0) (h : ∀ w, w < P 0 → Q (9 + (8 * w)) = P (9 + (8 * w)) ∧ Q ((9 + (8 * w)) + 1) = P ((9 + (8 * w)) + 1) ∧ Q ((9 + (8 * w)) + 2) = P ((9 + (8 * w)) + 2) ∧ Q ((9 + (8 * w)) + 3) = P ((9 + (8 * w)) + 3) ∧ Q ((9 + (8 * w)) + 4) = P ((9 + (8 * w)) + 4)) (hs : cS P ord flo sro sco) : cS Q ord flo sro sco := by
  obtain ⟨s1, s2, s3⟩ := hs
  have hb : ∀ q, BL (pP Q) (P 0) q = BL (pP P) (P 0) q := by
    intro q
    induction q with
    | zero => rfl
    | succ q ih =>
      show BL (pP Q) (P 0) q ++ bkt (pP Q) (q + 1) (P 0) = BL (pP P) (P 0) q ++ bkt (pP P) (q + 1) (P 0)
      rw [ih]
      refine congrArg _ ?_
      unfold bkt
      refine List.filter_congr (fun u hu => ?_)
      unfold pP
      rw [(h u (List.mem_range.mp hu)).2.2.2.1]
  unfold cS
  rw [h0, hb]
  refine ⟨s1, s2, fun u hu => ?_⟩
  obtain ⟨q0, q1, q2, q3, q4⟩ := h u hu
  unfold flP srP scP
  rw [q0, q1, q2, q4]
  exact s3 u hu
theorem cS_on {P : Nat → Nat} {ord : Nat → Nat} {flo sro sco : Nat → Int32} {u v : Nat} (hs : cS P ord flo sro sco) : cS (va_up P ((9 + (8 * u)) + 7) v) ord flo sro sco :=
  cS_congr (vu_ne (by omega)) (fun w _ => ⟨vu_ne (by omega), vu_ne (by omega), vu_ne (by omega), vu_ne (by omega), vu_ne (by omega)⟩) hs
theorem cS_dem {P : Nat → Nat} {ord : Nat → Nat} {flo sro sco : Nat → Int32} {h v : Nat} (hh : h < 6) (hs : cS P ord flo sro sco) : cS (va_up P (3 + h) v) ord flo sro sco :=
  cS_congr (vu_ne (by omega)) (fun w _ => ⟨vu_ne (by omega), vu_ne (by omega), vu_ne (by omega), vu_ne (by omega), vu_ne (by omega)⟩) hs
theorem cS_res {P : Nat → Nat} {ord : Nat → Nat} {flo sro sco : Nat → Int32} {v : Nat} (hs : cS P ord flo sro sco) : cS (va_up P (2) v) ord flo sro sco :=
  cS_congr (vu_ne (by omega)) (fun w _ => ⟨vu_ne (by omega), vu_ne (by omega), vu_ne (by omega), vu_ne (by omega), vu_ne (by omega)⟩) hs
theorem put_kind {P : Nat → Nat} {H U : Nat} {res : Int32} {dem kin low hig pri sta ups dow onn : Nat → Int32} {ord : Nat → Nat} {flo sro sco : Nat → Int32} {u v : Nat} {R : (Nat → Int32) × (Nat → Nat) × (Nat → Int32) × (Nat → Int32) × (Nat → Int32)} (hP : nOK P) (hu : u < P 0) (hv : 1 ≤ v ∧ v ≤ 5) (hc : cD P H U res dem kin low hig pri sta ups dow onn) (hO : ∀ j, j < 4 → ord j < 4) (hR : f_Day_putKind U kin low hig pri sta ord flo sro sco u (nI v) = R) :
    nOK (va_up P (9 + (8 * u)) v) ∧ cD (va_up P (9 + (8 * u)) v) H U res dem R.1 low hig pri sta ups dow onn ∧ cS (va_up P (9 + (8 * u)) v) R.2.1 R.2.2.1 R.2.2.2.1 R.2.2.2.2 := by
  subst hR
  have hP2 := nOK_kind (u := u) hP hu hv
  have hc2 := cD_kind (u := u) (v := v) hc hP.2.1
  rw [← upd_eq] at hc2
  exact ⟨hP2, hc2, settle_S hP2 hc2 hO⟩
theorem put_price {P : Nat → Nat} {H U : Nat} {res : Int32} {dem kin low hig pri sta ups dow onn : Nat → Int32} {ord : Nat → Nat} {flo sro sco : Nat → Int32} {u v : Nat} {R : (Nat → Int32) × (Nat → Nat) × (Nat → Int32) × (Nat → Int32) × (Nat → Int32)} (hP : nOK P) (hu : u < P 0) (hv : 1 ≤ v ∧ v ≤ 9) (hc : cD P H U res dem kin low hig pri sta ups dow onn) (hO : ∀ j, j < 4 → ord j < 4) (hR : f_Day_putPrice U kin low hig pri sta ord flo sro sco u (nI v) = R) :
    nOK (va_up P ((9 + (8 * u)) + 3) v) ∧ cD (va_up P ((9 + (8 * u)) + 3) v) H U res dem kin low hig R.1 sta ups dow onn ∧ cS (va_up P ((9 + (8 * u)) + 3) v) R.2.1 R.2.2.1 R.2.2.2.1 R.2.2.2.2 := by
  subst hR
  have hP2 := nOK_price (u := u) hP hu hv
  have hc2 := cD_price (u := u) (v := v) hc hP.2.1
  rw [← upd_eq] at hc2
  exact ⟨hP2, hc2, settle_S hP2 hc2 hO⟩
