/-! ANSWERS: three numbers u, v, u + v of the box without a common prime -/
def dj3 (n : Nat) (bx : Nat → Int) (f g h : Nat → Nat) : Prop := ∀ i, i < n → ((f i : Int) ≤ bx i ∧ (g i : Int) ≤ bx i ∧ (h i : Int) ≤ bx i) ∧ (f i = 0 ∨ g i = 0) ∧ (f i = 0 ∨ h i = 0) ∧ (g i = 0 ∨ h i = 0)
def Sm3 (n : Nat) (p bx : Nat → Int) (u v w : Int) : Prop := ∃ f g h : Nat → Nat, dj3 n bx f g h ∧ u = PZ p f n ∧ v = PZ p g n ∧ w = PZ p h n
section sw_set
variable {n : Nat} {p bx : Nat → Int}
theorem Sm3_12 {u v w : Int} (s : Sm3 n p bx u v w) : Sm3 n p bx v u w := by
  obtain ⟨f, g, h, d, e1, e2, e3⟩ := s
  exact ⟨g, f, h, fun i hi => by have := d i hi; omega, e2, e1, e3⟩
theorem Sm3_23 {u v w : Int} (s : Sm3 n p bx u v w) : Sm3 n p bx u w v := by
  obtain ⟨f, g, h, d, e1, e2, e3⟩ := s
  exact ⟨f, h, g, fun i hi => by have := d i hi; omega, e1, e3, e2⟩
theorem Sm3_pos {u v w : Int} (hp : copP n p) (s : Sm3 n p bx u v w) : 0 < u ∧ 0 < v ∧ 0 < w := by
  obtain ⟨f, g, h, d, e1, e2, e3⟩ := s
  rw [e1, e2, e3]
  exact ⟨PZ_pos n hp.1, PZ_pos n hp.1, PZ_pos n hp.1⟩
def ATri (n : Nat) (p bx : Nat → Int) (a b : Int) : Prop := 0 < b ∧ Sm3 n p bx a.natAbs b (b - a).natAbs
def okAB (a b : Int) : Prop := 0 < b ∧ ¬ a = 0 ∧ ¬ b = a
theorem ATri_ok (hp : copP n p) {a b : Int} (s : ATri n p bx a b) : okAB a b := by
  have := Sm3_pos hp s.2
  exact ⟨s.1, by omega, by omega⟩
def mn3 (a b : Int) : Int := min (a.natAbs : Int) (min (b.natAbs : Int) ((b - a).natAbs : Int))
def mx3 (a b : Int) : Int := max (a.natAbs : Int) (max (b.natAbs : Int) ((b - a).natAbs : Int))
theorem k6 {k : Nat} (hk : k < 6) : k = 0 ∨ k = 1 ∨ k = 2 ∨ k = 3 ∨ k = 4 ∨ k = 5 := by omega
/-- the forms written out -/
theorem formA_e {a b : Int} : formA a b (b - a) 0 = (if b < 0 then -a else a) ∧ formA a b (b - a) 1 = (if b < 0 then -(b - a) else b - a) ∧ formA a b (b - a) 2 = (if a < 0 then -b else b) ∧ formA a b (b - a) 3 = (if b - a < 0 then -b else b) ∧ formA a b (b - a) 4 = (if a < 0 then -(-(b - a)) else -(b - a)) ∧ formA a b (b - a) 5 = (if b - a < 0 then -(-a) else -a) := by
  refine ⟨rfl, rfl, rfl, rfl, rfl, rfl⟩
theorem formB_e {a b : Int} : formB a b (b - a) 0 = b.natAbs ∧ formB a b (b - a) 1 = b.natAbs ∧ formB a b (b - a) 2 = a.natAbs ∧ formB a b (b - a) 3 = (b - a).natAbs ∧ formB a b (b - a) 4 = a.natAbs ∧ formB a b (b - a) 5 = (b - a).natAbs := by
  refine ⟨rfl, rfl, rfl, rfl, rfl, rfl⟩
/-- the six shapes over x, y -/
def patA : Nat → Int → Int → Int
  | 0, x, _ => x
  | 1, x, y => y - x
  | 2, _, y => y
  | 3, _, y => y
  | 4, x, y => x - y
  | _, x, _ => -x
def patB : Nat → Int → Int → Int
  | 0, _, y => y
  | 1, _, y => y
  | 2, x, _ => x
  | 3, x, y => y - x
  | 4, x, _ => x
  | _, x, y => y - x
def cmpF (j k : Nat) : Nat := ([[0, 1, 2, 3, 4, 5], [1, 0, 3, 2, 5, 4], [2, 4, 0, 5, 1, 3], [3, 5, 1, 4, 0, 2], [4, 2, 5, 0, 3, 1], [5, 3, 4, 1, 2, 0]].getD j []).getD k 0
theorem cmpF_lt : ∀ j : Fin 6, ∀ k : Fin 6, cmpF j.val k.val < 6 := by decide
theorem cmpF_on : ∀ j : Fin 6, ∀ i : Fin 6, ∃ k : Fin 6, cmpF j.val k.val = i.val := by decide
theorem pat_ex {a b : Int} (o : okAB a b) : ∃ (x y : Int) (j : Nat), 0 < x ∧ 2 * x ≤ y ∧ j < 6 ∧ a = patA j x y ∧ b = patB j x y := by
  obtain ⟨o1, o2, o3⟩ := o
  have e : (b < a ∧ 0 < a ∧ b ≤ a - b) ∨ (b < a ∧ 0 < a ∧ a - b < b) ∨ (0 < a ∧ a < b ∧ a ≤ b - a) ∨ (0 < a ∧ a < b ∧ b - a < a) ∨ (a < 0 ∧ b ≤ -a) ∨ (a < 0 ∧ -a < b) := by omega
  rcases e with e | e | e | e | e | e
  · exact ⟨b, a, 2, by omega, by omega, by decide, rfl, rfl⟩
  · exact ⟨a - b, a, 3, by omega, by omega, by decide, rfl, by simp only [patB]; omega⟩
  · exact ⟨a, b, 0, by omega, by omega, by decide, rfl, rfl⟩
  · exact ⟨b - a, b, 1, by omega, by omega, by decide, by simp only [patA]; omega, rfl⟩
  · exact ⟨b, b - a, 4, by omega, by omega, by decide, by simp only [patA]; omega, rfl⟩
  · exact ⟨-a, b - a, 5, by omega, by omega, by decide, by simp only [patA]; omega, by simp only [patB]; omega⟩
theorem pat_ok {x y : Int} (h1 : 0 < x) (h2 : 2 * x ≤ y) {j : Nat} (hj : j < 6) : okAB (patA j x y) (patB j x y) := by
  rcases k6 hj with rfl | rfl | rfl | rfl | rfl | rfl <;> simp only [patA, patB] <;> exact ⟨by omega, by omega, by omega⟩
theorem abs_of {v w : Int} (h : v = w ∨ v = -w) (hw : 0 < w) : (v.natAbs : Int) = w := by omega
theorem pat_mn {x y : Int} (h1 : 0 < x) (h2 : 2 * x ≤ y) {j : Nat} (hj : j < 6) : mn3 (patA j x y) (patB j x y) = x ∧ mx3 (patA j x y) (patB j x y) = y := by
  have key : ∀ a b u v w : Int, (a.natAbs : Int) = u → (b.natAbs : Int) = v → ((b - a).natAbs : Int) = w → min u (min v w) = x → max u (max v w) = y → mn3 a b = x ∧ mx3 a b = y := by
    intro a b u v w e1 e2 e3 e4 e5
    unfold mn3 mx3
    rw [e1, e2, e3]
    exact ⟨e4, e5⟩
  rcases k6 hj with rfl | rfl | rfl | rfl | rfl | rfl <;> simp only [patA, patB]
  · exact key _ _ x y (y - x) (abs_of (by omega) (by omega)) (abs_of (by omega) (by omega)) (abs_of (by omega) (by omega)) (by omega) (by omega)
  · exact key _ _ (y - x) y x (abs_of (by omega) (by omega)) (abs_of (by omega) (by omega)) (abs_of (by omega) (by omega)) (by omega) (by omega)
  · exact key _ _ y x (y - x) (abs_of (by omega) (by omega)) (abs_of (by omega) (by omega)) (abs_of (by omega) (by omega)) (by omega) (by omega)
  · exact key _ _ y (y - x) x (abs_of (by omega) (by omega)) (abs_of (by omega) (by omega)) (abs_of (by omega) (by omega)) (by omega) (by omega)
  · exact key _ _ (y - x) x y (abs_of (by omega) (by omega)) (abs_of (by omega) (by omega)) (abs_of (by omega) (by omega)) (by omega) (by omega)
  · exact key _ _ x (y - x) y (abs_of (by omega) (by omega)) (abs_of (by omega) (by omega)) (abs_of (by omega) (by omega)) (by omega) (by omega)
theorem pat_fm {x y : Int} (h1 : 0 < x) (h2 : 2 * x ≤ y) {j k : Nat} (hj : j < 6) (hk : k < 6) : formA (patA j x y) (patB j x y) (patB j x y - patA j x y) k = patA (cmpF j k) x y ∧ formB (patA j x y) (patB j x y) (patB j x y - patA j x y) k = patB (cmpF j k) x y := by
  obtain ⟨A0, A1, A2, A3, A4, A5⟩ := formA_e (a := patA j x y) (b := patB j x y)
  obtain ⟨B0, B1, B2, B3, B4, B5⟩ := formB_e (a := patA j x y) (b := patB j x y)
  rcases k6 hk with rfl | rfl | rfl | rfl | rfl | rfl
  · rw [A0, B0]; clear A0 A1 A2 A3 A4 A5 B0 B1 B2 B3 B4 B5
    rcases k6 hj with rfl | rfl | rfl | rfl | rfl | rfl
    · show _ = patA 0 x y ∧ _ = patB 0 x y
      simp only [patA, patB]
      refine ⟨?_, by omega⟩
      split <;> omega
    · show _ = patA 1 x y ∧ _ = patB 1 x y
      simp only [patA, patB]
      refine ⟨?_, by omega⟩
      split <;> omega
    · show _ = patA 2 x y ∧ _ = patB 2 x y
      simp only [patA, patB]
      refine ⟨?_, by omega⟩
      split <;> omega
    · show _ = patA 3 x y ∧ _ = patB 3 x y
      simp only [patA, patB]
      refine ⟨?_, by omega⟩
      split <;> omega
    · show _ = patA 4 x y ∧ _ = patB 4 x y
      simp only [patA, patB]
      refine ⟨?_, by omega⟩
      split <;> omega
    · show _ = patA 5 x y ∧ _ = patB 5 x y
      simp only [patA, patB]
      refine ⟨?_, by omega⟩
      split <;> omega
  · rw [A1, B1]; clear A0 A1 A2 A3 A4 A5 B0 B1 B2 B3 B4 B5
    rcases k6 hj with rfl | rfl | rfl | rfl | rfl | rfl
    · show _ = patA 1 x y ∧ _ = patB 1 x y
      simp only [patA, patB]
      refine ⟨?_, by omega⟩
      split <;> omega
    · show _ = patA 0 x y ∧ _ = patB 0 x y
      simp only [patA, patB]
      refine ⟨?_, by omega⟩
      split <;> omega
    · show _ = patA 4 x y ∧ _ = patB 4 x y
      simp only [patA, patB]
      refine ⟨?_, by omega⟩
      split <;> omega
    · show _ = patA 5 x y ∧ _ = patB 5 x y
      simp only [patA, patB]
      refine ⟨?_, by omega⟩
      split <;> omega
    · show _ = patA 2 x y ∧ _ = patB 2 x y
      simp only [patA, patB]
      refine ⟨?_, by omega⟩
      split <;> omega
    · show _ = patA 3 x y ∧ _ = patB 3 x y
      simp only [patA, patB]
      refine ⟨?_, by omega⟩
      split <;> omega
  · rw [A2, B2]; clear A0 A1 A2 A3 A4 A5 B0 B1 B2 B3 B4 B5
    rcases k6 hj with rfl | rfl | rfl | rfl | rfl | rfl
    · show _ = patA 2 x y ∧ _ = patB 2 x y
      simp only [patA, patB]
      refine ⟨?_, by omega⟩
      split <;> omega
    · show _ = patA 3 x y ∧ _ = patB 3 x y
      simp only [patA, patB]
      refine ⟨?_, by omega⟩
      split <;> omega
    · show _ = patA 0 x y ∧ _ = patB 0 x y
      simp only [patA, patB]
      refine ⟨?_, by omega⟩
      split <;> omega
    · show _ = patA 1 x y ∧ _ = patB 1 x y
      simp only [patA, patB]
      refine ⟨?_, by omega⟩
      split <;> omega
    · show _ = patA 5 x y ∧ _ = patB 5 x y
      simp only [patA, patB]
      refine ⟨?_, by omega⟩
      split <;> omega
    · show _ = patA 4 x y ∧ _ = patB 4 x y
      simp only [patA, patB]
      refine ⟨?_, by omega⟩
      split <;> omega
  · rw [A3, B3]; clear A0 A1 A2 A3 A4 A5 B0 B1 B2 B3 B4 B5
    rcases k6 hj with rfl | rfl | rfl | rfl | rfl | rfl
    · show _ = patA 3 x y ∧ _ = patB 3 x y
      simp only [patA, patB]
      refine ⟨?_, by omega⟩
      split <;> omega
    · show _ = patA 2 x y ∧ _ = patB 2 x y
      simp only [patA, patB]
      refine ⟨?_, by omega⟩
      split <;> omega
    · show _ = patA 5 x y ∧ _ = patB 5 x y
      simp only [patA, patB]
      refine ⟨?_, by omega⟩
      split <;> omega
    · show _ = patA 4 x y ∧ _ = patB 4 x y
      simp only [patA, patB]
      refine ⟨?_, by omega⟩
      split <;> omega
    · show _ = patA 0 x y ∧ _ = patB 0 x y
      simp only [patA, patB]
      refine ⟨?_, by omega⟩
      split <;> omega
    · show _ = patA 1 x y ∧ _ = patB 1 x y
      simp only [patA, patB]
      refine ⟨?_, by omega⟩
      split <;> omega
  · rw [A4, B4]; clear A0 A1 A2 A3 A4 A5 B0 B1 B2 B3 B4 B5
    rcases k6 hj with rfl | rfl | rfl | rfl | rfl | rfl
    · show _ = patA 4 x y ∧ _ = patB 4 x y
      simp only [patA, patB]
      refine ⟨?_, by omega⟩
      split <;> omega
    · show _ = patA 5 x y ∧ _ = patB 5 x y
      simp only [patA, patB]
      refine ⟨?_, by omega⟩
      split <;> omega
    · show _ = patA 1 x y ∧ _ = patB 1 x y
      simp only [patA, patB]
      refine ⟨?_, by omega⟩
      split <;> omega
    · show _ = patA 0 x y ∧ _ = patB 0 x y
      simp only [patA, patB]
      refine ⟨?_, by omega⟩
      split <;> omega
    · show _ = patA 3 x y ∧ _ = patB 3 x y
      simp only [patA, patB]
      refine ⟨?_, by omega⟩
      split <;> omega
    · show _ = patA 2 x y ∧ _ = patB 2 x y
      simp only [patA, patB]
      refine ⟨?_, by omega⟩
      split <;> omega
  · rw [A5, B5]; clear A0 A1 A2 A3 A4 A5 B0 B1 B2 B3 B4 B5
    rcases k6 hj with rfl | rfl | rfl | rfl | rfl | rfl
    · show _ = patA 5 x y ∧ _ = patB 5 x y
      simp only [patA, patB]
      refine ⟨?_, by omega⟩
      split <;> omega
    · show _ = patA 4 x y ∧ _ = patB 4 x y
      simp only [patA, patB]
      refine ⟨?_, by omega⟩
      split <;> omega
    · show _ = patA 3 x y ∧ _ = patB 3 x y
      simp only [patA, patB]
      refine ⟨?_, by omega⟩
      split <;> omega
    · show _ = patA 2 x y ∧ _ = patB 2 x y
      simp only [patA, patB]
      refine ⟨?_, by omega⟩
      split <;> omega
    · show _ = patA 1 x y ∧ _ = patB 1 x y
      simp only [patA, patB]
      refine ⟨?_, by omega⟩
      split <;> omega
    · show _ = patA 0 x y ∧ _ = patB 0 x y
      simp only [patA, patB]
      refine ⟨?_, by omega⟩
      split <;> omega
/-- a form has the same three numbers -/
theorem form_same {a b : Int} (o : okAB a b) {k : Nat} (hk : k < 6) : okAB (formA a b (b - a) k) (formB a b (b - a) k) ∧ mn3 (formA a b (b - a) k) (formB a b (b - a) k) = mn3 a b ∧ mx3 (formA a b (b - a) k) (formB a b (b - a) k) = mx3 a b := by
  obtain ⟨x, y, j, h1, h2, hj, rfl, rfl⟩ := pat_ex o
  have e := pat_fm h1 h2 hj hk
  have hc := cmpF_lt ⟨j, hj⟩ ⟨k, hk⟩
  rw [e.1, e.2]
  have m1 := pat_mn h1 h2 hj
  have m2 := pat_mn h1 h2 hc
  exact ⟨pat_ok h1 h2 hc, m2.1.trans m1.1.symm, m2.2.trans m1.2.symm⟩
theorem mn_b {a b : Int} (o : okAB a b) : 0 < mn3 a b ∧ 2 * mn3 a b ≤ mx3 a b := by
  obtain ⟨x, y, j, h1, h2, hj, rfl, rfl⟩ := pat_ex o
  have m1 := pat_mn h1 h2 hj
  rw [m1.1, m1.2]; exact ⟨h1, h2⟩
theorem can_form {x y : Int} (h1 : 0 < x) (h2 : 2 * x ≤ y) {k : Nat} (hk : k < 6) : okAB (formA x y (y - x) k) (formB x y (y - x) k) ∧ mn3 (formA x y (y - x) k) (formB x y (y - x) k) = x ∧ mx3 (formA x y (y - x) k) (formB x y (y - x) k) = y := by
  obtain ⟨o, e1, e2⟩ := form_same (a := x) (b := y) (pat_ok h1 h2 (j := 0) (by decide)) hk
  have m1 := pat_mn h1 h2 (j := 0) (by decide)
  exact ⟨o, e1.trans m1.1, e2.trans m1.2⟩
/-- all with the same three numbers are forms of each other -/
theorem form_all {a b a' b' : Int} (o : okAB a b) (o' : okAB a' b') (e1 : mn3 a' b' = mn3 a b) (e2 : mx3 a' b' = mx3 a b) : ∃ k, k < 6 ∧ formA a b (b - a) k = a' ∧ formB a b (b - a) k = b' := by
  obtain ⟨x, y, j, h1, h2, hj, rfl, rfl⟩ := pat_ex o
  obtain ⟨x', y', j', h1', h2', hj', rfl, rfl⟩ := pat_ex o'
  have m1 := pat_mn h1 h2 hj
  have m2 := pat_mn h1' h2' hj'
  rw [m1.1, m2.1] at e1
  rw [m1.2, m2.2] at e2
  subst e1
  subst e2
  obtain ⟨k, hk⟩ := cmpF_on ⟨j, hj⟩ ⟨j', hj'⟩
  have e := pat_fm h1 h2 hj k.isLt
  have hk : cmpF j k.val = j' := hk
  rw [hk] at e
  exact ⟨k.val, k.isLt, e⟩
theorem form_can {a b : Int} (o : okAB a b) : ∃ k, k < 6 ∧ formA (mn3 a b) (mx3 a b) (mx3 a b - mn3 a b) k = a ∧ formB (mn3 a b) (mx3 a b) (mx3 a b - mn3 a b) k = b := by
  have hb := mn_b o
  have m1 := pat_mn hb.1 hb.2 (j := 0) (by decide)
  exact form_all (a := mn3 a b) (b := mx3 a b) (pat_ok hb.1 hb.2 (j := 0) (by decide)) o m1.1.symm m1.2.symm
theorem ATri_form (hp : copP n p) {a b : Int} (s : ATri n p bx a b) {k : Nat} (hk : k < 6) : ATri n p bx (formA a b (b - a) k) (formB a b (b - a) k) := by
  have o := ATri_ok hp s
  refine ⟨(form_same o hk).1.1, ?_⟩
  obtain ⟨o1, o2, o3⟩ := o
  obtain ⟨-, s⟩ := s
  have key : ∀ (A B u v w : Int), Sm3 n p bx u v w → (A.natAbs : Int) = u → B = v → ((B - A).natAbs : Int) = w → Sm3 n p bx A.natAbs B (B - A).natAbs := by
    intro A B u v w s e1 e2 e3
    rw [e1, e3, e2]; exact s
  rcases k6 hk with rfl | rfl | rfl | rfl | rfl | rfl
  · rw [(formA_e (a := a) (b := b)).1, (formB_e (a := a) (b := b)).1, if_neg (by omega)]; exact key _ _ _ _ _ s (by omega) (by omega) (by omega)
  · rw [(formA_e (a := a) (b := b)).2.1, (formB_e (a := a) (b := b)).2.1, if_neg (by omega)]; exact key _ _ _ _ _ (Sm3_12 (Sm3_23 (Sm3_12 s))) (by omega) (by omega) (by omega)
  · rw [(formA_e (a := a) (b := b)).2.2.1, (formB_e (a := a) (b := b)).2.2.1]; split <;> exact key _ _ _ _ _ (Sm3_12 s) (by omega) (by omega) (by omega)
  · rw [(formA_e (a := a) (b := b)).2.2.2.1, (formB_e (a := a) (b := b)).2.2.2.1]; split <;> exact key _ _ _ _ _ (Sm3_23 (Sm3_12 s)) (by omega) (by omega) (by omega)
  · rw [(formA_e (a := a) (b := b)).2.2.2.2.1, (formB_e (a := a) (b := b)).2.2.2.2.1]; split <;> exact key _ _ _ _ _ (Sm3_12 (Sm3_23 s)) (by omega) (by omega) (by omega)
  · rw [(formA_e (a := a) (b := b)).2.2.2.2.2, (formB_e (a := a) (b := b)).2.2.2.2.2]; split <;> exact key _ _ _ _ _ (Sm3_23 s) (by omega) (by omega) (by omega)
theorem ATri_can (hp : copP n p) {a b : Int} (s : ATri n p bx a b) : ATri n p bx (mn3 a b) (mx3 a b) := by
  have o := ATri_ok hp s
  have hb := mn_b o
  have m1 := pat_mn hb.1 hb.2 (j := 0) (by decide)
  obtain ⟨k, hk, e1, e2⟩ := form_all o (a' := mn3 a b) (b' := mx3 a b) (pat_ok hb.1 hb.2 (j := 0) (by decide)) m1.1 m1.2
  rw [← e1, ← e2]
  exact ATri_form hp s hk
/-- the box test -/
theorem inBoxZ_iff {e bx : Nat → Int} : ∀ m i, inBoxZ e bx m i = true ↔ ∀ j, i ≤ j → j < i + m → ((e j).natAbs : Int) ≤ bx j
  | 0, i => ⟨fun _ j h1 h2 => by omega, fun _ => rfl⟩
  | m + 1, i => by
    have e1 : inBoxZ e bx (m + 1) i = if ((e i).natAbs : Int) ≤ bx i then inBoxZ e bx m (i + 1) else false := rfl
    rw [e1]
    by_cases c : ((e i).natAbs : Int) ≤ bx i
    · rw [if_pos c, inBoxZ_iff m (i + 1)]
      refine ⟨fun h j h1 h2 => ?_, fun h j h1 h2 => h j (by omega) (by omega)⟩
      by_cases ej : j = i
      · rw [ej]; exact c
      · exact h j (by omega) (by omega)
    · rw [if_neg c]
      exact ⟨fun h => absurd h (by decide), fun h => absurd (h i (by omega) (by omega)) c⟩
def ansB (n : Nat) (p bx e : Nat → Int) (sg : Int) : Bool := inBoxZ e bx n 0 && (frOK n p (bU n p e - aU n p e sg) (bU n p e) && inBoxZ (frU n p (bU n p e - aU n p e sg) (bU n p e)) bx n 0)
theorem aU_abs {e : Nat → Int} {sg : Int} (hp : copP n p) (hs : sg = 1 ∨ sg = -1) : ((aU n p e sg).natAbs : Int) = PZ p (faE e) n := by
  have h := PZ_pos (f := faE e) n hp.1
  rw [a_PZ]
  rcases hs with rfl | rfl <;> omega
theorem ansB_iff (hb : ∀ i, i < n → bx i ≤ 6) (hp : copP n p) {e : Nat → Int} {sg : Int} (hs : sg = 1 ∨ sg = -1) (he : e6Z n e) : ansB n p bx e sg = true ↔ ATri n p bx (aU n p e sg) (bU n p e) := by
  have b0 : 0 < bU n p e := by rw [b_PZ]; exact PZ_pos n hp.1
  unfold ansB
  rw [Bool.and_eq_true, Bool.and_eq_true, inBoxZ_iff, inBoxZ_iff]
  constructor
  · rintro ⟨h1, h2, h3⟩
    obtain ⟨fc, c1, c2, c3⟩ := tri hp hs he h2
    have hP := PZ_pos (f := fc) n hp.1
    have hS := frS_1 (bU n p e - aU n p e sg)
    refine ⟨b0, faE e, fbE e, fc, fun i hi => ?_, aU_abs hp hs, b_PZ n p e, ?_⟩
    · have k1 := h1 i (by omega) (by omega)
      have k3 := h3 i (by omega) (by omega)
      rw [c3 i hi] at k3
      have k2 := c1 i hi
      unfold faE fbE at *
      omega
    · rw [c2]
      generalize frS (bU n p e - aU n p e sg) = s at hS
      rcases hS with rfl | rfl <;> omega
  · rintro ⟨-, f, g, h, d, e1, e2, e3⟩
    rw [aU_abs hp hs] at e1
    have ef := PZ_inj hp e1
    rw [b_PZ] at e2
    have eg := PZ_inj hp e2
    have hP := PZ_pos (f := h) n hp.1
    have e4 : bU n p e - aU n p e sg = frS (bU n p e - aU n p e sg) * PZ p h n := by
      unfold frS; split <;> omega
    have fr := fr_PZ (f := h) (g := fbE e) hp (frS_1 (bU n p e - aU n p e sg)) (fun i hi => by have := d i hi; have := hb i hi; omega) (fbE_le he)
    rw [← e4, ← b_PZ] at fr
    refine ⟨fun i _ hi => ?_, fr.1, fun i _ hi => ?_⟩
    · have k1 := d i (by omega)
      have k2 := ef i (by omega)
      have k3 := eg i (by omega)
      rw [← k2, ← k3] at k1
      unfold faE fbE at k1
      omega
    · rw [fr.2.2 i (by omega)]
      have k1 := d i (by omega)
      have k3 := eg i (by omega)
      rw [← k3] at k1
      omega
/-- each has its powers -/
theorem ATri_unit (hb : ∀ i, i < n → bx i ≤ 6) (hp : copP n p) {a b : Int} (s : ATri n p bx a b) : frOK n p a b = true ∧ aU n p (frU n p a b) (frS a) = a ∧ bU n p (frU n p a b) = b ∧ ∀ i, i < n → ((frU n p a b i).natAbs : Int) ≤ bx i := by
  obtain ⟨s0, f, g, h, d, e1, e2, e3⟩ := s
  have hP := PZ_pos (f := f) n hp.1
  have ea : a = frS a * PZ p f n := by unfold frS; split <;> omega
  have fr := fr_PZ (f := f) (g := g) hp (frS_1 a) (fun i hi => by have := d i hi; have := hb i hi; omega) (fun i hi => by have := d i hi; have := hb i hi; omega)
  rw [← ea, ← e2] at fr
  refine ⟨fr.1, ?_, ?_, fun i hi => ?_⟩
  · rw [a_PZ]
    conv => rhs; rw [ea]
    congr 1
    refine PZ_congr n (fun i hi => ?_)
    have := d i hi
    unfold faE
    rw [fr.2.2 i hi]
    omega
  · rw [b_PZ]
    conv => rhs; rw [e2]
    refine PZ_congr n (fun i hi => ?_)
    have := d i hi
    unfold fbE
    rw [fr.2.2 i hi]
    omega
  · have := d i hi
    rw [fr.2.2 i hi]
    omega
/-- a unit's powers come back of its fraction -/
theorem fr_unit (hp : copP n p) {e : Nat → Int} {sg : Int} (hs : sg = 1 ∨ sg = -1) (he : e6Z n e) : frS (aU n p e sg) = sg ∧ ∀ i, i < n → frU n p (aU n p e sg) (bU n p e) i = e i := by
  have fr := fr_PZ (f := faE e) (g := fbE e) hp hs (faE_le he) (fbE_le he)
  rw [← a_PZ, ← b_PZ] at fr
  exact ⟨fr.2.1, fun i hi => by rw [fr.2.2 i hi]; unfold faE fbE; omega⟩
end sw_set
