/-! A day as numbers: P has the reference's places. -/
def mD (f : Nat → Int32) (P : Nat → Nat) : Prop := ∀ k, k < 41 → f k = nI (P k)
def nOKu (P : Nat → Nat) (u : Nat) : Prop := (1 ≤ P (9 + (8 * u)) ∧ P (9 + (8 * u)) ≤ 5) ∧ P ((9 + (8 * u)) + 1) ≤ 20 ∧ P ((9 + (8 * u)) + 1) ≤ P ((9 + (8 * u)) + 2) ∧ P ((9 + (8 * u)) + 2) ≤ 30 ∧ (1 ≤ P ((9 + (8 * u)) + 3) ∧ P ((9 + (8 * u)) + 3) ≤ 9) ∧ P ((9 + (8 * u)) + 4) ≤ 40 ∧ (1 ≤ P ((9 + (8 * u)) + 5) ∧ P ((9 + (8 * u)) + 5) ≤ 3) ∧ (1 ≤ P ((9 + (8 * u)) + 6) ∧ P ((9 + (8 * u)) + 6) ≤ 3) ∧ P ((9 + (8 * u)) + 7) < 2 ^ (P 1)
def nOKb (B : Nat) (P : Nat → Nat) : Prop := P 0 ≤ 4 ∧ P 1 ≤ 6 ∧ (P 0 = 0 ↔ P 1 = 0) ∧ P 2 ≤ 20 ∧ (∀ h, h < P 1 → P (3 + h) ≤ B) ∧ ∀ u, u < P 0 → nOKu P u
def nOK (P : Nat → Nat) : Prop := nOKb 60 P
def cD (P : Nat → Nat) (H U : Nat) (res : Int32) (dem kin low hig pri sta ups dow onn : Nat → Int32) : Prop := H = P 1 ∧ U = P 0 ∧ res = nI (P 2) ∧ (∀ h, h < P 1 → dem h = nI (P (3 + h))) ∧ ∀ u, u < P 0 → kin u = nI (P (9 + (8 * u))) ∧ low u = nI (P ((9 + (8 * u)) + 1)) ∧ hig u = nI (P ((9 + (8 * u)) + 2)) ∧ pri u = nI (P ((9 + (8 * u)) + 3)) ∧ sta u = nI (P ((9 + (8 * u)) + 4)) ∧ ups u = nI (P ((9 + (8 * u)) + 5)) ∧ dow u = nI (P ((9 + (8 * u)) + 6)) ∧ onn u = nI (P ((9 + (8 * u)) + 7))
def pP (P : Nat → Nat) (u : Nat) : Nat := P ((9 + (8 * u)) + 3)
def hiP (P : Nat → Nat) (u : Nat) : Nat := P ((9 + (8 * u)) + 2)
def flP (P : Nat → Nat) (u : Nat) : Nat := if P (9 + (8 * u)) < 4 then P ((9 + (8 * u)) + 1) else 0
def srP (P : Nat → Nat) (u : Nat) : Nat := if P (9 + (8 * u)) = 3 then P ((9 + (8 * u)) + 1) else P ((9 + (8 * u)) + 2)
def scP (P : Nat → Nat) (u : Nat) : Nat := if P (9 + (8 * u)) < 4 then (if P (9 + (8 * u)) = 2 then P ((9 + (8 * u)) + 4) / 2 else P ((9 + (8 * u)) + 4)) else 0
def cS (P : Nat → Nat) (ord : Nat → Nat) (flo sro sco : Nat → Int32) : Prop := arr ord (P 0) = BL (pP P) (P 0) 9 ∧ (∀ j, j < 4 → ord j < 4) ∧ ∀ u, u < P 0 → flo u = nI (flP P u) ∧ sro u = nI (srP P u) ∧ sco u = nI (scP P u)
theorem upd_eq {f : Nat → Int32} {k : Nat} {x : Int32} : upd f k x = va_up f k x := by
  funext j
  unfold upd va_up
  rfl
theorem half_all : ((List.range 41).all fun s => decide (nI s / (2 : Int32) = nI (s / 2))) = true := by decide +kernel
theorem half_eq {s : Nat} (hs : s ≤ 40) : nI s / (2 : Int32) = nI (s / 2) := of_decide_eq_true (List.all_eq_true.mp half_all s (List.mem_range.mpr (by omega)))
theorem five {k : Nat} (h : 1 ≤ k ∧ k ≤ 5) : k = 1 ∨ k = 2 ∨ k = 3 ∨ k = 4 ∨ k = 5 := by omega
theorem set_L {kin low hig sta flo sro sco : Nat → Int32} : ∀ n u, u < n → (f_Day_settle_L2 kin low hig sta flo sro sco n).1 u = (if (if (kin u) = (4 : Int32) then (1 : Int32) else if (kin u) = (5 : Int32) then (1 : Int32) else (0 : Int32)) = (0 : Int32) then low u else (0 : Int32)) ∧ (f_Day_settle_L2 kin low hig sta flo sro sco n).2.1 u = (if (kin u) = (3 : Int32) then low u else hig u) ∧ (f_Day_settle_L2 kin low hig sta flo sro sco n).2.2 u = (if (if (kin u) = (4 : Int32) then (1 : Int32) else if (kin u) = (5 : Int32) then (1 : Int32) else (0 : Int32)) = (0 : Int32) then if (kin u) = (2 : Int32) then (sta u) / (2 : Int32) else sta u else (0 : Int32)) := by
  intro n
  induction n with
  | zero => intro u h; exact absurd h (Nat.not_lt_zero _)
  | succ n ih =>
    intro u h
    rw [f_Day_settle_L2]
    unfold f_Day_settle_L2s
    dsimp only
    rw [upd_eq, upd_eq, upd_eq]
    by_cases c : u = n
    · subst c
      rw [vu_self, vu_self, vu_self]
      exact ⟨rfl, rfl, rfl⟩
    · rw [vu_ne c, vu_ne c, vu_ne c]
      exact ih u (by omega)
theorem ord_in {pri : Nat → Int32} {ord : Nat → Nat} (hO : ∀ j, j < 4 → ord j < 4) : ∀ n, n ≤ 4 → ∀ j, j < 4 → f_Day_sortUnits_L2 pri ord n j < 4 := by
  intro n
  induction n with
  | zero => intro _; exact hO
  | succ n ih =>
    intro hn j hj
    rw [f_Day_sortUnits_L2]
    unfold f_Day_sortUnits_L2s
    dsimp only
    have h1 := sortUnits_in (pri := pri) (u := n) (n + 1) n (f_Day_sortUnits_L2 pri ord n) (by omega) (ih (by omega))
    by_cases c : j = (f_Day_sortUnits_L12 pri n (n + 1) n (f_Day_sortUnits_L2 pri ord n)).1
    · rw [c, vu_self]; omega
    · rw [vu_ne c]; exact h1.2 j hj
theorem settle_S {P : Nat → Nat} {H U : Nat} {res : Int32} {dem kin low hig pri sta ups dow onn flo sro sco : Nat → Int32} {ord : Nat → Nat} (hP : nOK P) (hc : cD P H U res dem kin low hig pri sta ups dow onn) (hO : ∀ j, j < 4 → ord j < 4) :
    cS P (f_Day_settle U kin low hig pri sta ord flo sro sco).1 (f_Day_settle U kin low hig pri sta ord flo sro sco).2.1 (f_Day_settle U kin low hig pri sta ord flo sro sco).2.2.1 (f_Day_settle U kin low hig pri sta ord flo sro sco).2.2.2 := by
  obtain ⟨h0, h1, h2, h3, h4, h5⟩ := hP
  obtain ⟨rfl, rfl, c2, c3, c4⟩ := hc
  unfold f_Day_settle f_Day_sortUnits
  dsimp only
  refine ⟨so_list h0 (fun v hv => ⟨(c4 v hv).2.2.2.1, (h5 v hv).2.2.2.2.1⟩) _ (Nat.le_refl _), ord_in hO _ h0, fun u hu => ?_⟩
  obtain ⟨s1, s2, s3⟩ := set_L (kin := kin) (low := low) (hig := hig) (sta := sta) (flo := flo) (sro := sro) (sco := sco) (P 0) u hu
  rw [s1, s2, s3]
  obtain ⟨k1, k2, k3, k4, k5, k6, k7, k8⟩ := c4 u hu
  obtain ⟨g1, g2, g3, g4, g5, g6, g7⟩ := h5 u hu
  rw [k1, k2, k3, k5]
  unfold flP srP scP
  rcases five g1 with e | e | e | e | e <;> rw [e]
  · exact ⟨rfl, rfl, rfl⟩
  · exact ⟨rfl, rfl, half_eq g6⟩
  · exact ⟨rfl, rfl, rfl⟩
  · exact ⟨rfl, rfl, rfl⟩
  · exact ⟨rfl, rfl, rfl⟩
theorem uOK_of {B : Nat} {P : Nat → Nat} {f : Nat → Int32} {H U : Nat} {res : Int32} {dem kin low hig pri sta ups dow onn flo sro sco : Nat → Int32} {ord : Nat → Nat} (hP : nOKb B P) (hm : mD f P) (hc : cD P H U res dem kin low hig pri sta ups dow onn) (hs : cS P ord flo sro sco) : uOK f hig pri flo sro sco (flP P) (hiP P) (srP P) (pP P) (scP P) U := by
  obtain ⟨h0, h1, h2, h3, h4, h5⟩ := hP
  obtain ⟨rfl, rfl, c2, c3, c4⟩ := hc
  obtain ⟨s1, s2, s3⟩ := hs
  intro u hu
  obtain ⟨k1, k2, k3, k4, k5, k6, k7, k8⟩ := c4 u hu
  obtain ⟨g1, g2, g3, g4, g5, g6, g7⟩ := h5 u hu
  obtain ⟨t1, t2, t3⟩ := s3 u hu
  have m0 := hm (9 + (8 * u)) (by omega)
  have m1 := hm ((9 + (8 * u)) + 1) (by omega)
  have m2 := hm ((9 + (8 * u)) + 2) (by omega)
  have m3 := hm ((9 + (8 * u)) + 3) (by omega)
  have m4 := hm ((9 + (8 * u)) + 4) (by omega)
  refine ⟨⟨t1, k3, t2, k4, t3⟩, ⟨?_, ?_, ?_, ?_, m3⟩, ?_⟩
  · unfold f_Model_floor f_Model_sortOf flP
    rw [m0, m1]
    rcases five g1 with e | e | e | e | e <;> rw [e] <;> rfl
  · unfold f_Model_startCost f_Model_sortOf scP
    rw [m0, m4]
    rcases five g1 with e | e | e | e | e <;> rw [e]
    · rfl
    · exact half_eq g6
    · rfl
    · rfl
    · rfl
  · unfold f_Model_roof f_Model_sortOf hiP
    rw [m0, m1, m2]
    rcases five g1 with e | e | e | e | e <;> rw [e] <;> rfl
  · unfold f_Model_roof f_Model_sortOf srP
    rw [m0, m1, m2]
    rcases five g1 with e | e | e | e | e <;> rw [e] <;> rfl
  · unfold flP hiP srP pP scP
    refine ⟨?_, g4, ?_, ?_, ?_, g5.1, g5.2, ?_⟩ <;> (repeat' split) <;> omega
theorem riv_of {B : Nat} {P : Nat → Nat} {H U : Nat} {res : Int32} {dem kin low hig pri sta ups dow onn : Nat → Int32} {wo : Int32} (hP : nOKb B P) (hc : cD P H U res dem kin low hig pri sta ups dow onn) : ∀ u, u < U → uMd wo kin u = 1 → srP P u = hiP P u ∧ scP P u = 0 := by
  obtain ⟨h0, h1, h2, h3, h4, h5⟩ := hP
  obtain ⟨rfl, rfl, c2, c3, c4⟩ := hc
  intro u hu h
  unfold uMd at h
  rw [(c4 u hu).1] at h
  have g1 := (h5 u hu).1
  unfold srP scP hiP
  rcases five g1 with e | e | e | e | e <;> rw [e] at h ⊢
  · exact absurd h (by rw [if_neg (show ¬ nI 1 = (5 : Int32) by decide)]; split <;> decide)
  · exact absurd h (by rw [if_neg (show ¬ nI 2 = (5 : Int32) by decide)]; split <;> decide)
  · exact absurd h (by rw [if_neg (show ¬ nI 3 = (5 : Int32) by decide)]; split <;> decide)
  · exact absurd h (by rw [if_neg (show ¬ nI 4 = (5 : Int32) by decide)]; split <;> decide)
  · exact ⟨rfl, rfl⟩
