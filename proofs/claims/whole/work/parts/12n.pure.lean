theorem bitT {x k : Nat} (hx : x < 2 ^ 31) (hk : k < 31) : ((((nI x) >>> ((nI k) &&& 31)) &&& (1 : Int32)) = (1 : Int32)) ↔ x / 2 ^ k % 2 = 1 := by
  have h := has_nat hx hk
  unfold f_Model_has at h
  constructor
  · intro e
    rw [if_pos e] at h
    by_cases c : x / 2 ^ k % 2 = 1
    · exact c
    · rw [decide_eq_false c] at h; exact absurd h (by decide)
  · intro e
    rw [decide_eq_true e] at h
    by_cases c : (((nI x) >>> ((nI k) &&& 31)) &&& (1 : Int32)) = (1 : Int32)
    · exact c
    · rw [if_neg c] at h; exact absurd h (by decide)
def bt_ (x u : Nat) : Bool := decide (x / 2 ^ u % 2 = 1)
def rfN (y : Nat) (hi sr : Nat → Nat) (u : Nat) : Nat := if bt_ y u then sr u else hi u
def stM (x : Nat) (fl rf pr : Nat → Nat) (s : Nat × Nat) (u : Nat) : Nat × Nat := if bt_ x u then (s.1 - min s.1 (rf u - fl u), s.2 + (fl u + min s.1 (rf u - fl u)) * pr u) else s
def sumL (g : Nat → Nat) : List Nat → Nat
  | [] => 0
  | a :: l => g a + sumL g l
theorem sumL_app {g : Nat → Nat} : ∀ l m, sumL g (l ++ m) = sumL g l + sumL g m := by
  intro l
  induction l with
  | nil => intro m; show sumL g m = 0 + sumL g m; rw [Nat.zero_add]
  | cons a l ih => intro m; show g a + sumL g (l ++ m) = g a + sumL g l + sumL g m; rw [ih, Nat.add_assoc]
def sumU (g : Nat → Nat) : Nat → Nat
  | 0 => 0
  | k + 1 => sumU g k + g k
theorem sum_BL {p g : Nat → Nat} : ∀ n, (∀ v, v < n → 1 ≤ p v ∧ p v ≤ 9) → sumL g (BL p n 9) = sumU g n := by
  intro n
  induction n with
  | zero =>
    intro _
    have : ∀ q, BL p 0 q = [] := by
      intro q
      induction q with
      | zero => rfl
      | succ q ih => show BL p 0 q ++ bkt p (q + 1) 0 = []; rw [ih]; rfl
    rw [this]; rfl
  | succ n ih =>
    intro h
    obtain ⟨i1, i2⟩ := BL_ins (p := p) (n := n) (q := 9) (h n (by omega)).1 (h n (by omega)).2
    have e := ih (fun v hv => h v (by omega))
    rw [i2, sumL_app] at e
    rw [i1, sumL_app]
    show _ + (g n + sumL g _) = sumU g n + g n
    omega
def scE (x y : Nat) (sc : Nat → Nat) (u : Nat) : Nat := if bt_ x u then (if bt_ y u then sc u else 0) else 0
section HC
variable {hig pri flo sro sco : Nat → Int32} {ord : Nat → Nat} {fl hi sr pr sc : Nat → Nat} {x y U : Nat}
theorem hcs (hx : x < 2 ^ 31) (hy : y < 2 ^ 31) {k L C : Nat} (hu : ord k < 31) (h1 : flo (ord k) = nI (fl (ord k))) (h2 : hig (ord k) = nI (hi (ord k))) (h3 : sro (ord k) = nI (sr (ord k))) (h4 : pri (ord k) = nI (pr (ord k))) (h5 : sco (ord k) = nI (sc (ord k))) (h6 : fl (ord k) ≤ hi (ord k)) (h7 : fl (ord k) ≤ sr (ord k)) (h8 : hi (ord k) ≤ 1000) (h9 : sr (ord k) ≤ 1000) (hL : L ≤ 1000) :
    f_Day_hourCost_L103s hig pri ord flo sro sco (nI x) (nI y) k (nI L) (nI C) = (nI (stM x fl (rfN y hi sr) pr (L, C) (ord k)).1, nI ((stM x fl (rfN y hi sr) pr (L, C) (ord k)).2 + scE x y sc (ord k))) := by
  unfold f_Day_hourCost_L103s stM scE
  have key : ∀ R e : Nat, ∀ Ri : Int32, ∀ E : Int32, Ri = nI R → E = nI e → fl (ord k) ≤ R → R ≤ 1000 → ((nI L - (if nI L < Ri - flo (ord k) then nI L else Ri - flo (ord k)), nI C + (((flo (ord k) + (if nI L < Ri - flo (ord k) then nI L else Ri - flo (ord k))) * pri (ord k)) + E)) : Int32 × Int32) = (nI (L - min L (R - fl (ord k))), nI (C + (fl (ord k) + min L (R - fl (ord k))) * pr (ord k) + e)) := by
    intro R e Ri E hR hE hf hr
    rw [hR, hE, h1, h4, pk_sub hf]
    have em : (if nI L < nI (R - fl (ord k)) then nI L else nI (R - fl (ord k))) = nI (min L (R - fl (ord k))) := by
      by_cases c : L < R - fl (ord k)
      · rw [if_pos (nI_lt c (by omega)), Nat.min_eq_left (by omega)]
      · rw [if_neg (nI_nlt (by omega) (by omega)), Nat.min_eq_right (by omega)]
    rw [em, pk_sub (Nat.min_le_left _ _), nI_add, pk_mul, nI_add, nI_add, Nat.add_assoc]
  by_cases b : x / 2 ^ (ord k) % 2 = 1
  · have eb : bt_ x (ord k) = true := decide_eq_true b
    simp only [if_pos ((bitT hx hu).mpr b), eb, if_true]
    by_cases c : y / 2 ^ (ord k) % 2 = 1
    · have ec : bt_ y (ord k) = true := decide_eq_true c
      simp only [if_pos ((bitT hy hu).mpr c), rfN, ec, if_true]
      exact key (sr (ord k)) (sc (ord k)) _ _ h3 h5 h7 h9
    · have ec : bt_ y (ord k) = false := decide_eq_false c
      simp only [if_neg (fun z => c ((bitT hy hu).mp z)), rfN, ec]
      exact key (hi (ord k)) 0 _ _ h2 rfl h6 h8
  · have eb : bt_ x (ord k) = false := decide_eq_false b
    simp only [if_neg (fun z => b ((bitT hx hu).mp z)), eb]
    rfl
end HC
