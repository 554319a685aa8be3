def spB (a b v : Nat) : Prop := v = FARn ∨ (v / 16777216 ≤ (b - a) * 32767 ∧ 2 ^ (4 * (6 - b)) ∣ v % 16777216 ∧ v % 16777216 < 2 ^ (4 * (6 - a)))
theorem sp_q {a b v : Nat} (hb : b ≤ 6) (h : v / 16777216 ≤ (b - a) * 32767) : v / 16777216 ≤ 196602 := Nat.le_trans h (Nat.le_trans (Nat.mul_le_mul_right _ (show b - a ≤ 6 by omega)) (by decide))
theorem sp_add {m n p v : Nat} (hm : m < n) (hn : n ≤ 6) (hp : parB m p) (hv : spB (m + 1) n v) : spB m n (fad p v) := by
  rcases hp with rfl | ⟨w, o, hw, ho, rfl⟩
  · exact Or.inl fad_far
  rcases hv with rfl | ⟨v1, v2, v3⟩
  · exact Or.inl fad_far2
  obtain ⟨e1, e2, e3⟩ := e_facts (h := m) (by omega)
  rw [show 6 - (m + 1) = 5 - m by omega] at v3
  have hoe : o * 2 ^ (4 * (5 - m)) ≤ 15 * 2 ^ (4 * (5 - m)) := Nat.mul_le_mul_right _ (by omega)
  obtain ⟨q1, q2, -⟩ := qr (a := w) v3 hoe e2
  have hq : (w * 16777216 + o * 2 ^ (4 * (5 - m)) + v) / 16777216 ≤ (n - m) * 32767 := by
    rw [q1, show n - m = (n - (m + 1)) + 1 by omega, Nat.add_mul, Nat.one_mul]
    omega
  have hlt : w * 16777216 + o * 2 ^ (4 * (5 - m)) + v < FARn := q_far (sp_q hn hq)
  rw [fad_add (by omega)]
  refine Or.inr ⟨hq, ?_, ?_⟩
  · rw [q2]
    exact Nat.dvd_add (Nat.dvd_trans (Nat.pow_dvd_pow 2 (by omega)) (Nat.dvd_mul_left _ _)) v2
  · rw [q2, e3]
    omega
theorem sp_mn {a b : Nat} {f : Nat → Nat} : ∀ n, (∀ i, i < n → spB a b (f i)) → spB a b (mnF f n) := by
  intro n h
  rcases mnF_at (f := f) n with z | ⟨i, hi, z⟩
  · exact Or.inl z
  · rw [z]; exact h i hi
theorem sp_WW {of_ on_ : Nat → Nat → Option Nat} {sc : Nat → Nat} {U n : Nat} {P : Nat → Nat → Nat} (hn : n ≤ 6) (hP : ∀ h c, h < 6 → parB h (P h c)) : ∀ m, m ≤ n → ∀ g : Nat → Nat, (∀ t, spB m n (g t)) → ∀ s, spB 0 n (WW of_ on_ sc U P m g s) := by
  intro m
  induction m with
  | zero => intro _ g h s; exact h s
  | succ m ih =>
    intro hm g h s
    refine ih (by omega) _ (fun t => ?_) s
    rw [TT_flat U _ (fun _ => fad_le)]
    refine sp_mn _ (fun x _ => ?_)
    cases chC of_ on_ U x t with
    | none => exact Or.inl rfl
    | some r => exact sp_add (by omega) hn (hP _ _ (by omega)) (h r)
theorem sp_zf {n v : Nat} (h : zf v) : spB n n v := by
  rcases h with rfl | rfl
  · refine Or.inr ⟨by rw [Nat.zero_div]; exact Nat.zero_le _, by rw [Nat.zero_mod]; exact Nat.dvd_zero _, by rw [Nat.zero_mod]; exact Nat.two_pow_pos _⟩
  · exact Or.inl rfl
