/-! Least values; the search's forward walk -/
def FARn : Nat := 1152921504606846976
def fad (a b : Nat) : Nat := min (a + b) FARn
def mnF (f : Nat → Nat) : Nat → Nat
  | 0 => FARn
  | n + 1 => min (mnF f n) (f n)
theorem mnF_le {f : Nat → Nat} {i : Nat} : ∀ {n : Nat}, i < n → mnF f n ≤ f i := by
  intro n
  induction n with
  | zero => intro h; exact absurd h (Nat.not_lt_zero _)
  | succ n ih =>
    intro h
    show min (mnF f n) (f n) ≤ f i
    rcases Nat.lt_or_ge i n with q | q
    · exact Nat.le_trans (Nat.min_le_left _ _) (ih q)
    · rw [show i = n by omega]; exact Nat.min_le_right _ _
theorem mnF_far {f : Nat → Nat} : ∀ n, mnF f n ≤ FARn := by
  intro n
  induction n with
  | zero => exact Nat.le_refl _
  | succ n ih => exact Nat.le_trans (Nat.min_le_left _ _) ih
theorem mnF_at {f : Nat → Nat} : ∀ n, mnF f n = FARn ∨ ∃ i, i < n ∧ mnF f n = f i := by
  intro n
  induction n with
  | zero => exact Or.inl rfl
  | succ n ih =>
    rcases Nat.le_total (mnF f n) (f n) with q | q
    · have e : mnF f (n + 1) = mnF f n := Nat.min_eq_left q
      rw [e]
      rcases ih with h | ⟨i, hi, h⟩
      · exact Or.inl h
      · exact Or.inr ⟨i, by omega, h⟩
    · exact Or.inr ⟨n, by omega, Nat.min_eq_right q⟩
theorem mnF_congr {f g : Nat → Nat} : ∀ {n : Nat}, (∀ i, i < n → f i = g i) → mnF f n = mnF g n := by
  intro n
  induction n with
  | zero => intro _; rfl
  | succ n ih => intro h; rw [mnF, mnF, ih (fun i hi => h i (by omega)), h n (by omega)]
theorem mnF_eq {f : Nat → Nat} {n v : Nat} (h1 : v ≤ FARn) (h2 : ∀ i, i < n → v ≤ f i) (h3 : v = FARn ∨ ∃ i, i < n ∧ f i = v) : mnF f n = v := by
  refine Nat.le_antisymm ?_ ?_
  · rcases h3 with h | ⟨i, hi, h⟩
    · rw [h]; exact mnF_far n
    · rw [← h]; exact mnF_le hi
  · rcases mnF_at (f := f) n with h | ⟨i, hi, h⟩
    · rw [h]; exact h1
    · rw [h]; exact h2 i hi
theorem mnF_up {f : Nat → Nat} {t v : Nat} : ∀ {n : Nat}, t < n → v ≤ f t → mnF (va_up f t v) n = min (mnF f n) v := by
  intro n
  induction n with
  | zero => intro h; exact absurd h (Nat.not_lt_zero _)
  | succ n ih =>
    intro h hv
    show min (mnF (va_up f t v) n) (va_up f t v n) = min (min (mnF f n) (f n)) v
    rcases Nat.lt_or_ge t n with q | q
    · rw [ih q hv, vu_ne (by omega)]
      omega
    · obtain rfl : t = n := by omega
      rw [vu_self, mnF_congr (g := f) (fun i hi => vu_ne (by omega))]
      omega
theorem mnF_half {f : Nat → Nat} : ∀ n, mnF f (2 * n) = min (mnF (fun q => f (2 * q)) n) (mnF (fun q => f (2 * q + 1)) n) := by
  intro n
  induction n with
  | zero => rfl
  | succ n ih =>
    show min (min (mnF f (2 * n)) (f (2 * n))) (f (2 * n + 1)) = min (min _ (f (2 * n))) (min _ (f (2 * n + 1)))
    rw [ih]
    omega
theorem fad_far {a : Nat} : fad FARn a = FARn := by unfold fad; omega
theorem fad_far2 {a : Nat} : fad a FARn = FARn := by unfold fad; omega
theorem fad_0 {a : Nat} (h : a ≤ FARn) : fad 0 a = a := by unfold fad; omega
theorem fad_r0 {a : Nat} (h : a ≤ FARn) : fad a 0 = a := by unfold fad; omega
theorem fad_le {a b : Nat} : fad a b ≤ FARn := by unfold fad; omega
theorem fad_min {a b c : Nat} : fad a (min b c) = min (fad a b) (fad a c) := by unfold fad; omega
theorem fad_assoc {a b c : Nat} : fad (fad a b) c = fad a (fad b c) := by unfold fad; omega
theorem fad_mono {a b c : Nat} (h : a ≤ b) : fad a c ≤ fad b c := by unfold fad; omega
theorem fad_mono2 {a b c : Nat} (h : b ≤ c) : fad a b ≤ fad a c := by unfold fad; omega
theorem fad_add {a b : Nat} (h : a + b ≤ FARn) : fad a b = a + b := by unfold fad; omega
def gO (g : Nat → Nat) (o : Option Nat) : Nat := match o with
  | none => FARn
  | some t => g t
theorem gO_le {g : Nat → Nat} {o : Option Nat} (hg : ∀ t, g t ≤ FARn) : gO g o ≤ FARn := by
  cases o with
  | none => exact Nat.le_refl _
  | some t => exact hg t
theorem lN_far : (1152921504606846976 : Int64) = lN FARn := rfl
theorem lN_ltF {a b : Nat} (ha : a ≤ FARn) (hb : b ≤ FARn) : lN a < lN b ↔ a < b := pk_lLT (by unfold FARn at ha; omega) (by unfold FARn at hb; omega)
