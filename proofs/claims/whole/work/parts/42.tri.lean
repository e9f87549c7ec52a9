/-! THREE NUMBERS a + c = b: their forms -/
def numF (k : Nat) (fa fb fc : Nat → Nat) (i : Nat) : Nat := if k = 0 ∨ k = 5 then fa i else if k = 1 ∨ k = 4 then fc i else fb i
def denF (k : Nat) (fa fb fc : Nat → Nat) (i : Nat) : Nat := if k = 0 ∨ k = 1 then fb i else if k = 2 ∨ k = 4 then fa i else fc i
theorem fr_PZ {n : Nat} {p : Nat → Int} {f g : Nat → Nat} {s : Int} (hp : copP n p) (hs : s = 1 ∨ s = -1) (hf : ∀ i, i < n → f i ≤ 6) (hg : ∀ i, i < n → g i ≤ 6) :
    frOK n p (s * PZ p f n) (PZ p g n) = true ∧ frS (s * PZ p f n) = s ∧ ∀ i, i < n → frU n p (s * PZ p f n) (PZ p g n) i = (f i : Int) - g i := by
  have hP : 0 < PZ p f n := PZ_pos n hp.1
  have ha : ((s * PZ p f n).natAbs : Int) = PZ p f n := by rcases hs with rfl | rfl <;> omega
  refine ⟨?_, ?_, fun i hi => ?_⟩
  · unfold frOK
    rw [decide_eq_true_iff, rest_rc, rest_rc, ha]
    exact ⟨by rcases hs with rfl | rfl <;> omega, (rc_one hp).mpr ⟨f, hf, rfl⟩, (rc_one hp).mpr ⟨g, hg, rfl⟩⟩
  · unfold frS
    rcases hs with rfl | rfl
    · rw [if_neg (by omega)]
    · rw [if_pos (by omega)]
  · unfold frU frE
    rw [if_pos hi, rest_rc, rest_rc, ha]
    show ((cn 6 p (PZ p f n) i : Nat) : Int) - ((cn 6 p (PZ p g n) i : Nat) : Int) = _
    rw [cn_out hp hf hi, cn_out hp hg hi]
theorem tri {n : Nat} {p e : Nat → Int} {sg : Int} (hp : copP n p) (hs : sg = 1 ∨ sg = -1) (he : e6Z n e) (ok : frOK n p (bU n p e - aU n p e sg) (bU n p e) = true) :
    ∃ fc : Nat → Nat, (∀ i, i < n → fc i ≤ 6 ∧ (¬ e i = 0 → fc i = 0)) ∧ bU n p e - aU n p e sg = frS (bU n p e - aU n p e sg) * PZ p fc n ∧ ∀ i, i < n → frU n p (bU n p e - aU n p e sg) (bU n p e) i = (fc i : Int) - fbE e i := by
  have ok2 := ok
  unfold frOK at ok2
  rw [decide_eq_true_iff, rest_rc, rest_rc] at ok2
  obtain ⟨o1, o2, o3⟩ := ok2
  have eP := rc_back 6 p ((bU n p e - aU n p e sg).natAbs : Int) n
  rw [o2, Int.mul_one] at eP
  have hP : 0 < PZ p (cn 6 p ((bU n p e - aU n p e sg).natAbs : Int)) n := PZ_pos n hp.1
  have eC : bU n p e - aU n p e sg = frS (bU n p e - aU n p e sg) * PZ p (cn 6 p ((bU n p e - aU n p e sg).natAbs : Int)) n := by
    unfold frS
    split <;> omega
  refine ⟨cn 6 p ((bU n p e - aU n p e sg).natAbs : Int), fun i hi => ⟨cn_le _ _ _ _, fun h0 => cn_zero (fun h => c_no hp hs hi h0 (abs_mod.mp h))⟩, eC, fun i hi => ?_⟩
  have h1 := (fr_PZ (f := cn 6 p ((bU n p e - aU n p e sg).natAbs : Int)) (g := fbE e) hp (frS_1 (bU n p e - aU n p e sg)) (fun i _ => cn_le _ _ _ _) (fbE_le he)).2.2 i hi
  rw [← eC, ← b_PZ] at h1
  exact h1
theorem form_PZ {a b c Pa Pb Pc sg ms : Int} (hs : sg = 1 ∨ sg = -1) (hm : ms = 1 ∨ ms = -1) (ha : a = sg * Pa) (hb : b = Pb) (hc : c = ms * Pc) (pa : 0 < Pa) (pb : 0 < Pb) (pc : 0 < Pc) {k : Nat} (hk : k < 6) :
    formA a b c k = shpS k sg ms * (if k = 0 ∨ k = 5 then Pa else if k = 1 ∨ k = 4 then Pc else Pb) ∧ formB a b c k = (if k = 0 ∨ k = 1 then Pb else if k = 2 ∨ k = 4 then Pa else Pc) := by
  have : k = 0 ∨ k = 1 ∨ k = 2 ∨ k = 3 ∨ k = 4 ∨ k = 5 := by omega
  rcases this with rfl | rfl | rfl | rfl | rfl | rfl <;> rcases hs with rfl | rfl <;> rcases hm with rfl | rfl <;> subst ha <;> subst hb <;> subst hc <;> (simp only [formA, formB, rawA, rawB, shpS]; simp (config := { decide := true }) only [if_true, if_false]) <;> (constructor <;> (try split) <;> omega)
theorem PZ_num {n : Nat} {p : Nat → Int} {fa fb fc : Nat → Nat} (k : Nat) : PZ p (numF k fa fb fc) n = (if k = 0 ∨ k = 5 then PZ p fa n else if k = 1 ∨ k = 4 then PZ p fc n else PZ p fb n) := by
  by_cases c1 : k = 0 ∨ k = 5
  · rw [if_pos c1]; exact PZ_congr n (fun i _ => by unfold numF; rw [if_pos c1])
  · rw [if_neg c1]
    by_cases c2 : k = 1 ∨ k = 4
    · rw [if_pos c2]; exact PZ_congr n (fun i _ => by unfold numF; rw [if_neg c1, if_pos c2])
    · rw [if_neg c2]; exact PZ_congr n (fun i _ => by unfold numF; rw [if_neg c1, if_neg c2])
theorem PZ_den {n : Nat} {p : Nat → Int} {fa fb fc : Nat → Nat} (k : Nat) : PZ p (denF k fa fb fc) n = (if k = 0 ∨ k = 1 then PZ p fb n else if k = 2 ∨ k = 4 then PZ p fa n else PZ p fc n) := by
  by_cases c1 : k = 0 ∨ k = 1
  · rw [if_pos c1]; exact PZ_congr n (fun i _ => by unfold denF; rw [if_pos c1])
  · rw [if_neg c1]
    by_cases c2 : k = 2 ∨ k = 4
    · rw [if_pos c2]; exact PZ_congr n (fun i _ => by unfold denF; rw [if_neg c1, if_pos c2])
    · rw [if_neg c2]; exact PZ_congr n (fun i _ => by unfold denF; rw [if_neg c1, if_neg c2])
theorem shp_nd {k : Nat} (hk : k < 6) {fa fb fc : Nat → Nat} {i : Nat} : shpE k ((fa i : Int) - fb i) ((fc i : Int) - fb i) = (numF k fa fb fc i : Int) - denF k fa fb fc i := by
  have : k = 0 ∨ k = 1 ∨ k = 2 ∨ k = 3 ∨ k = 4 ∨ k = 5 := by omega
  rcases this with rfl | rfl | rfl | rfl | rfl | rfl <;> simp [shpE, numF, denF] <;> omega
theorem shpS_1 {k : Nat} {sg ms : Int} (hs : sg = 1 ∨ sg = -1) (hm : ms = 1 ∨ ms = -1) : shpS k sg ms = 1 ∨ shpS k sg ms = -1 := by
  unfold shpS
  rcases hs with rfl | rfl <;> rcases hm with rfl | rfl <;> split <;> (try split) <;> simp
/-- the forms of a unit with a partner, both ways -/
theorem form_tri {n k : Nat} {p e : Nat → Int} {sg : Int} (hp : copP n p) (hs : sg = 1 ∨ sg = -1) (he : e6Z n e) (ok : frOK n p (bU n p e - aU n p e sg) (bU n p e) = true) (hk : k < 6) :
    frOK n p (formA (aU n p e sg) (bU n p e) (bU n p e - aU n p e sg) k) (formB (aU n p e sg) (bU n p e) (bU n p e - aU n p e sg) k) = true ∧
    frS (formA (aU n p e sg) (bU n p e) (bU n p e - aU n p e sg) k) = shpS k sg (frS (bU n p e - aU n p e sg)) ∧
    (∀ i, i < n → frU n p (formA (aU n p e sg) (bU n p e) (bU n p e - aU n p e sg) k) (formB (aU n p e sg) (bU n p e) (bU n p e - aU n p e sg) k) i = shpE k (e i) (frU n p (bU n p e - aU n p e sg) (bU n p e) i)) ∧
    (∀ i, i < n → -6 ≤ shpE k (e i) (frU n p (bU n p e - aU n p e sg) (bU n p e) i) ∧ shpE k (e i) (frU n p (bU n p e - aU n p e sg) (bU n p e) i) ≤ 6) ∧
    aU n p (fun i => shpE k (e i) (frU n p (bU n p e - aU n p e sg) (bU n p e) i)) (shpS k sg (frS (bU n p e - aU n p e sg))) = formA (aU n p e sg) (bU n p e) (bU n p e - aU n p e sg) k ∧
    bU n p (fun i => shpE k (e i) (frU n p (bU n p e - aU n p e sg) (bU n p e) i)) = formB (aU n p e sg) (bU n p e) (bU n p e - aU n p e sg) k := by
  obtain ⟨fc, h1, h2, h3⟩ := tri hp hs he ok
  have fA := form_PZ (k := k) hs (frS_1 (bU n p e - aU n p e sg)) (a_PZ n p e sg) (b_PZ n p e) h2 (PZ_pos n hp.1) (PZ_pos n hp.1) (PZ_pos n hp.1) hk
  rw [← PZ_num k, ← PZ_den k] at fA
  have nl : ∀ i, i < n → numF k (faE e) (fbE e) fc i ≤ 6 := fun i hi => by
    have a1 := faE_le he i hi
    have a2 := fbE_le he i hi
    have a3 := (h1 i hi).1
    unfold numF; split <;> (try split) <;> omega
  have dl : ∀ i, i < n → denF k (faE e) (fbE e) fc i ≤ 6 := fun i hi => by
    have a1 := faE_le he i hi
    have a2 := fbE_le he i hi
    have a3 := (h1 i hi).1
    unfold denF; split <;> (try split) <;> omega
  have s1 := shpS_1 (k := k) hs (frS_1 (bU n p e - aU n p e sg))
  have fp := fr_PZ hp s1 nl dl
  have ee : ∀ i, e i = (faE e i : Int) - fbE e i := fun i => by unfold faE fbE; omega
  have es : ∀ i, i < n → shpE k (e i) (frU n p (bU n p e - aU n p e sg) (bU n p e) i) = (numF k (faE e) (fbE e) fc i : Int) - denF k (faE e) (fbE e) fc i := fun i hi => by
    rw [h3 i hi, ee i]; exact shp_nd hk
  have dis : ∀ i, i < n → numF k (faE e) (fbE e) fc i = 0 ∨ denF k (faE e) (fbE e) fc i = 0 := fun i hi => by
    have a3 := (h1 i hi).2
    have a4 : faE e i = 0 ∨ fbE e i = 0 := by unfold faE fbE; omega
    by_cases z : e i = 0
    · have z1 : faE e i = 0 := by unfold faE; omega
      have z2 : fbE e i = 0 := by unfold fbE; omega
      unfold numF denF
      split <;> split <;> (try split) <;> (try split) <;> omega
    · have z1 := a3 z
      unfold numF denF
      split <;> split <;> (try split) <;> (try split) <;> omega
  rw [fA.1, fA.2]
  refine ⟨fp.1, fp.2.1, fun i hi => by rw [fp.2.2 i hi, es i hi], fun i hi => by rw [es i hi]; have := nl i hi; have := dl i hi; omega, ?_, ?_⟩
  · rw [a_PZ]
    congr 1
    refine PZ_congr n (fun i hi => ?_)
    show (1 * shpE k (e i) (frU n p (bU n p e - aU n p e sg) (bU n p e) i)).toNat = _
    rw [es i hi]
    have := dis i hi
    omega
  · rw [b_PZ]
    refine PZ_congr n (fun i hi => ?_)
    show (-1 * shpE k (e i) (frU n p (bU n p e - aU n p e sg) (bU n p e) i)).toNat = _
    rw [es i hi]
    have := dis i hi
    omega
