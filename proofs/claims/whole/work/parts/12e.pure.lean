theorem mnF_app {f : Nat → Nat} {n : Nat} : ∀ m, mnF f (n + m) = min (mnF f n) (mnF (fun i => f (n + i)) m) := by
  intro m
  induction m with
  | zero => exact (Nat.min_eq_left (mnF_far n)).symm
  | succ m ih =>
    show min (mnF f (n + m)) (f (n + m)) = min (mnF f n) (min (mnF (fun i => f (n + i)) m) (f (n + m)))
    rw [ih]
    omega
theorem mnF_min {f g : Nat → Nat} : ∀ n, mnF (fun i => min (f i) (g i)) n = min (mnF f n) (mnF g n) := by
  intro n
  induction n with
  | zero => exact (Nat.min_eq_left (Nat.le_refl _)).symm
  | succ n ih =>
    show min (mnF (fun i => min (f i) (g i)) n) (min (f n) (g n)) = min (min (mnF f n) (f n)) (min (mnF g n) (g n))
    rw [ih]
    omega
def chC (of_ on_ : Nat → Nat → Option Nat) : Nat → Nat → Nat → Option Nat
  | 0, _, s => some s
  | k + 1, x, s => (chC of_ on_ k x s).bind (fun t => if x / 2 ^ k % 2 = 1 then on_ k t else of_ k t)
theorem chC_low {of_ on_ : Nat → Nat → Option Nat} {s : Nat} : ∀ k x y, x % 2 ^ k = y % 2 ^ k → chC of_ on_ k x s = chC of_ on_ k y s := by
  intro k
  induction k with
  | zero => intro x y _; rfl
  | succ k ih =>
    intro x y h
    have h1 : x % 2 ^ k = y % 2 ^ k := by
      have e1 : x % 2 ^ (k + 1) % 2 ^ k = x % 2 ^ k := Nat.mod_mod_of_dvd _ ⟨2, Nat.pow_succ ..⟩
      have e2 : y % 2 ^ (k + 1) % 2 ^ k = y % 2 ^ k := Nat.mod_mod_of_dvd _ ⟨2, Nat.pow_succ ..⟩
      rw [← e1, ← e2, h]
    have h2 : x / 2 ^ k % 2 = y / 2 ^ k % 2 := by
      have e1 := Nat.mod_mul (x := x) (a := 2 ^ k) (b := 2)
      have e2 := Nat.mod_mul (x := y) (a := 2 ^ k) (b := 2)
      rw [← Nat.pow_succ] at e1 e2
      rw [h, e2] at e1
      rw [h1] at e1
      have hp := Nat.two_pow_pos k
      exact (Nat.eq_of_mul_eq_mul_left hp (by omega)).symm
    show (chC of_ on_ k x s).bind _ = (chC of_ on_ k y s).bind _
    rw [ih x y h1, h2]
theorem gO_bind {g : Nat → Nat} {o : Option Nat} {f : Nat → Option Nat} : gO g (o.bind f) = gO (fun t => gO g (f t)) o := by
  cases o with
  | none => rfl
  | some t => rfl
theorem gO_min {f g : Nat → Nat} {o : Option Nat} : gO (fun t => min (f t) (g t)) o = min (gO f o) (gO g o) := by
  cases o with
  | none => exact (Nat.min_eq_left (Nat.le_refl _)).symm
  | some t => rfl
theorem TT_flat {of_ on_ : Nat → Nat → Option Nat} {s : Nat} : ∀ (k : Nat) (g : Nat → Nat), (∀ t, g t ≤ FARn) → TT of_ on_ k g s = mnF (fun x => gO g (chC of_ on_ k x s)) (2 ^ k) := by
  intro k
  induction k with
  | zero =>
    intro g hg
    show g s = min FARn (g s)
    rw [Nat.min_eq_right (hg s)]
  | succ k ih =>
    intro g hg
    show TT of_ on_ k (Tu (of_ k) (on_ k) g) s = _
    rw [ih (Tu (of_ k) (on_ k) g) (fun t => Nat.le_trans (Nat.min_le_left _ _) (gO_le hg)), Nat.pow_succ, Nat.mul_two, mnF_app]
    have e1 : mnF (fun x => gO g (chC of_ on_ (k + 1) x s)) (2 ^ k) = mnF (fun x => gO (fun t => gO g (of_ k t)) (chC of_ on_ k x s)) (2 ^ k) := by
      refine mnF_congr (fun x hx => ?_)
      show gO g ((chC of_ on_ k x s).bind _) = _
      rw [gO_bind]
      have : ¬ x / 2 ^ k % 2 = 1 := by rw [Nat.div_eq_of_lt hx]; decide
      simp only [if_neg this]
    have e2 : mnF (fun i => gO g (chC of_ on_ (k + 1) (2 ^ k + i) s)) (2 ^ k) = mnF (fun x => gO (fun t => gO g (on_ k t)) (chC of_ on_ k x s)) (2 ^ k) := by
      refine mnF_congr (fun x hx => ?_)
      show gO g ((chC of_ on_ k (2 ^ k + x) s).bind _) = _
      rw [gO_bind]
      have : (2 ^ k + x) / 2 ^ k % 2 = 1 := by rw [Nat.add_div_left _ (Nat.two_pow_pos k), Nat.div_eq_of_lt hx]
      simp only [if_pos this]
      rw [chC_low k (2 ^ k + x) x (Nat.add_mod_left _ _)]
    rw [e1, e2, ← mnF_min]
    exact mnF_congr (fun x _ => gO_min)
def mGo (md pu pd was : Nat) (on : Bool) : Option Nat := if md = 0 then (if on then none else some 0) else if on then (if was = 0 then some 3 else if was < 3 then none else if was < 5 then some (was + 1) else some 5) else if md = 1 then none else if was < 3 then (if was = 0 ∨ was + 1 ≥ pd then some 0 else some (was + 1)) else if was - 2 < pu then none else some (if pd = 1 then 0 else 1)
def relB (md pu pd m c : Nat) : Bool := if md = 0 then m == 0 && c == 0 else if md = 1 then c == 0 && (m == 0 || m == 3 || m == 4 || m == 5) else (m == 0 && c == 0) || (m == 1 && decide (2 ≤ pd) && c == pd - 1) || (m == 2 && pd == 3 && c == 1) || (m == 3 && c == pd) || (m == 4 && c == pd + 1) || (m == 5 && c == pd + (max pu 2 - 1))
def okO (md pu pd : Nat) (a b : Option Nat) : Bool := match a, b with
  | none, none => true
  | some m, some c => relB md pu pd m c
  | _, _ => false
def actB (md pu pd a : Nat) (o : Option Nat) : Bool := match o with
  | none => true
  | some t => uAct md pu pd t == a
def simT (md pu pd m c : Nat) : Bool := !(decide (1 ≤ pu) && (decide (1 ≤ pd) && relB md pu pd m c)) || (okO md pu pd (mGo md pu pd m false) (uOff md pu pd c) && (okO md pu pd (mGo md pu pd m true) (uOn md pu pd c) && (actB md pu pd 0 (uOff md pu pd c) && actB md pu pd (if md = 1 then 1 else if m < 3 then 2 else 1) (uOn md pu pd c))))
theorem sim_all : ((List.range 3).all fun md => (List.range 4).all fun pu => (List.range 4).all fun pd => (List.range 6).all fun m => (List.range 7).all fun c => simT md pu pd m c) = true := by decide +kernel
theorem sim_b {md pu pd m c : Nat} (h1 : md ≤ 2) (h2 : 1 ≤ pu ∧ pu ≤ 3) (h3 : 1 ≤ pd ∧ pd ≤ 3) (h4 : m < 6) (h5 : c < 7) (hr : relB md pu pd m c = true) : okO md pu pd (mGo md pu pd m false) (uOff md pu pd c) = true ∧ okO md pu pd (mGo md pu pd m true) (uOn md pu pd c) = true ∧ actB md pu pd 0 (uOff md pu pd c) = true ∧ actB md pu pd (if md = 1 then 1 else if m < 3 then 2 else 1) (uOn md pu pd c) = true := by
  have a1 := List.all_eq_true.mp sim_all md (List.mem_range.mpr (by omega))
  have a2 := List.all_eq_true.mp a1 pu (List.mem_range.mpr (by omega))
  have a3 := List.all_eq_true.mp a2 pd (List.mem_range.mpr (by omega))
  have a4 := List.all_eq_true.mp a3 m (List.mem_range.mpr h4)
  have a5 := List.all_eq_true.mp a4 c (List.mem_range.mpr h5)
  unfold simT at a5
  rw [hr, decide_eq_true h2.1, decide_eq_true h3.1] at a5
  simp only [Bool.and_true, Bool.not_true, Bool.false_or, Bool.and_eq_true] at a5
  exact a5
