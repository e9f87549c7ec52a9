/-! THE CLASS'S CALLS, 1: primes, boxes, units. What a call answers and what it leaves -/
abbrev RgZ : Type := Int × SgZ
theorem ifz_eq {P : Prop} [Decidable P] : zI (if P then 1 else 0) = 0 ↔ ¬ P := by
  by_cases h : P
  · rw [if_pos h]; exact ⟨fun e => absurd e (by decide), fun e => absurd h e⟩
  · rw [if_neg h]; exact ⟨fun _ => h, fun _ => rfl⟩
theorem bIz_eq {b : Bool} : bI b = 0 ↔ b = false := by
  cases b
  · exact ⟨fun _ => rfl, fun _ => rfl⟩
  · exact ⟨fun e => absurd e (by decide), fun e => absurd e (by decide)⟩
theorem IA_mk {h h2 : sw_H} {σ : SgZ} {D : DkZ} (I : IA h σ) (A : ∀ a, 16 ≤ a → h2.1 a = h.1 a ∧ h2.2 a = h.2 a) (A0 : h2.1 0 11 = h.1 0 11) (V : dkA h2 1 D) (VK : iaK h2 D) (VL : iaL h2 D) : IA h2 (D, σ.2) :=
  ⟨V, iaM_ag I.2.1 A0 (fun a h1 _ => (A a h1).1), VK, VL, iaT_ag I.2.2.2.2.1 (fun a h1 _ => (A a (by omega)).1), iaS_ag I.2.2.2.2.2.1 (fun a h1 _ => A a (by omega)), iaF_ag I.2.2.2.2.2.2 (fun a h1 => (A a (by omega)).1)⟩
/-- the caches are empty -/
theorem IA_new {h h2 : sw_H} {σ : SgZ} {D : DkZ} (I : IA h σ) (A : ∀ a, 16 ≤ a → h2.1 a = h.1 a ∧ h2.2 a = h.2 a) (A0 : h2.1 0 11 = h.1 0 11) (V : dkA h2 1 D) (VK : h2.1 0 12 = zI 0) (VL : h2.1 0 13 = zI 0) : IA h2 (D, σ.2) :=
  IA_mk I A A0 V (Or.inl VK) (Or.inl VL)
theorem pc_at {h : sw_H} : (sw_wI (sw_wI h 0 12 (zI 0)) 0 13 (zI 0)).1 0 11 = h.1 0 11 ∧ (sw_wI (sw_wI h 0 12 (zI 0)) 0 13 (zI 0)).1 0 12 = zI 0 ∧ (sw_wI (sw_wI h 0 12 (zI 0)) 0 13 (zI 0)).1 0 13 = zI 0 := by
  refine ⟨?_, ?_, ?_⟩ <;> (rw [sw_wI_at, sw_wI_at]; simp [va_up])
theorem pc_ne {h : sw_H} {a : Nat} (ha : 0 < a) : (sw_wI (sw_wI h 0 12 (zI 0)) 0 13 (zI 0)).1 a = h.1 a ∧ (sw_wI (sw_wI h 0 12 (zI 0)) 0 13 (zI 0)).2 = h.2 := by
  refine ⟨?_, rfl⟩; rw [sw_wI_ne (by omega), sw_wI_ne (by omega)]
def setSh (σ : SgZ) (s : Nat) (x : Int) (f : Nat → Int) : SgZ := ((σ.1.1, (va_up σ.1.2.1.1 s x, va_up σ.1.2.1.2 s f), σ.1.2.2), σ.2)
theorem IA_setSh {h : sw_H} {σ : SgZ} {s : Nat} {f : Nat → Int32} {e : Nat → Int} {x : Int} (I : IA h σ) (hs : s < 4) (hf : ∀ i, i < 4 → f i = zI (e i)) : IA (uH h (8 + 2 * s) (9 + 2 * s) f (zI x)) (setSh σ s x e) := by
  have hU := isU_now hs
  have A : ∀ a, a ≠ 8 + 2 * s → a ≠ 9 + 2 * s → (uH h (8 + 2 * s) (9 + 2 * s) f (zI x)).1 a = h.1 a := fun a h1 h2 => uH_other h1 h2
  have e0 := A 0 (by omega) (by omega)
  obtain ⟨v1, v2, v3, v4, v5⟩ := I.1
  refine IA_mk I (fun a ha => ⟨A a (by omega) (by omega), rfl⟩) (by rw [e0]) ⟨?_, ?_, ?_, ?_, ?_⟩ ?_ ?_
  · rw [A _ (by omega) (by omega)]; exact v1
  · intro i hi; rw [A _ (by omega) (by omega), A _ (by omega) (by omega)]; exact v2 i hi
  · intro t ht
    show _ = zI (va_up σ.1.2.1.1 s x t) ∧ ∀ i, i < 4 → _ = zI (va_up σ.1.2.1.2 s e t i)
    by_cases ts : t = s
    · subst ts
      rw [show 1 + 7 + 2 * t = 8 + 2 * t by omega, show 1 + 8 + 2 * t = 9 + 2 * t by omega, uH_sign hU, uH_row hU]
      simp only [va_up, if_pos]
      first | exact ⟨rfl, hf⟩ | exact ⟨trivial, hf⟩
    · rw [A _ (by omega) (by omega), A _ (by omega) (by omega)]
      simp only [va_up, if_neg ts]
      exact v3 t ht
  · rw [A _ (by omega) (by omega)]; exact v4
  · intro i hi; rw [A _ (by omega) (by omega)]; exact v5 i hi
  · exact iaK_ag I.2.2.1 (by rw [e0]) (fun a h1 _ => ⟨A a (by omega) (by omega), rfl⟩)
  · exact iaL_ag I.2.2.2.1 (by rw [e0]) (by rw [e0])
theorem okS_setSh {σ : SgZ} {s : Nat} {x : Int} {e : Nat → Int} (K : okS σ) (hx : x = 1 ∨ x = -1) (he : ∀ i, i < 4 → -6 ≤ e i ∧ e i ≤ 6 ∧ (σ.1.1.1 ≤ i → e i = 0)) : okS (setSh σ s x e) := by
  obtain ⟨⟨k1, k2, k3⟩, k4⟩ := K
  refine ⟨⟨k1, fun t ht => ?_, k3⟩, k4⟩
  show (va_up σ.1.2.1.1 s x t = 1 ∨ va_up σ.1.2.1.1 s x t = -1) ∧ ∀ i, i < 4 → -6 ≤ va_up σ.1.2.1.2 s e t i ∧ va_up σ.1.2.1.2 s e t i ≤ 6 ∧ (σ.1.1.1 ≤ i → va_up σ.1.2.1.2 s e t i = 0)
  by_cases ts : t = s
  · subst ts; simp only [va_up, if_pos]; exact ⟨hx, he⟩
  · simp only [va_up, if_neg ts]; exact k2 t ht
def opPrime (σ : SgZ) (v : Int) : RgZ :=
  if prmZ v 2 31 = false then (-2, σ) else if ¬ fndZ σ.1.1.2.1 v σ.1.1.1 0 = -1 then (-3, σ) else if 4 ≤ σ.1.1.1 ∨ 1000 < prodZ σ.1.1.2.1 σ.1.1.1 * v then (-4, σ)
  else (σ.1.1.1 + 1, (((σ.1.1.1 + 1, insR (insAt σ.1.1.2.1 v σ.1.1.1) σ.1.1.1 v σ.1.1.2.1, insR (insAt σ.1.1.2.1 v σ.1.1.1) σ.1.1.1 2 σ.1.1.2.2), (σ.1.2.1.1, fun s => insR (insAt σ.1.1.2.1 v σ.1.1.1) 3 0 (σ.1.2.1.2 s)), rmS σ.1.2.2.1 σ.1.2.2.2 (fndZ σ.1.2.2.2 v σ.1.2.2.1 0)), σ.2))
def opDrop (σ : SgZ) (i : Int) : RgZ :=
  if 0 ≤ i ∧ i < σ.1.1.1 then ((σ.1.1.1 - 1 : Nat), (((σ.1.1.1 - 1, rmR i.toNat (σ.1.1.1 - 1) σ.1.1.2.1, rmR i.toNat (σ.1.1.1 - 1) σ.1.1.2.2), (σ.1.2.1.1, fun s => va_up (rmR i.toNat 3 (σ.1.2.1.2 s)) 3 0), σ.1.2.2), σ.2)) else (-1, σ)
def opPrimeOf (σ : SgZ) (i : Int) : Int := if 0 ≤ i ∧ i < σ.1.1.1 then σ.1.1.2.1 i.toNat else -1
def opBox (σ : SgZ) (i b : Int) : RgZ :=
  if 0 ≤ i ∧ i < σ.1.1.1 then (if b < 0 ∨ 4 < b then (-2, σ) else (σ.1.1.2.2 i.toNat, (((σ.1.1.1, σ.1.1.2.1, va_up σ.1.1.2.2 i.toNat b), σ.1.2), σ.2))) else (-1, σ)
def opBoxOf (σ : SgZ) (i : Int) : Int := if 0 ≤ i ∧ i < σ.1.1.1 then σ.1.1.2.2 i.toNat else -1
def opPut (σ : SgZ) (s i x : Int) : RgZ :=
  if (0 ≤ s ∧ s < 4) ∧ (0 ≤ i ∧ i < σ.1.1.1) then (if x < -6 ∨ 6 < x then (-2, σ) else (σ.1.2.1.2 s.toNat i.toNat + 10, setSh σ s.toNat (σ.1.2.1.1 s.toNat) (va_up (σ.1.2.1.2 s.toNat) i.toNat x))) else (-1, σ)
def opSign (σ : SgZ) (s x : Int) : RgZ :=
  if 0 ≤ s ∧ s < 4 then (if ¬ x = 1 ∧ ¬ x = -1 then (-2, σ) else (1, setSh σ s.toNat x (σ.1.2.1.2 s.toNat))) else (-1, σ)
def opPowerOf (σ : SgZ) (s i : Int) : Int := if (0 ≤ s ∧ s < 4) ∧ (0 ≤ i ∧ i < σ.1.1.1) then σ.1.2.1.2 s.toNat i.toNat + 10 else -1
def shA0 (σ : SgZ) (s : Nat) : Int := σ.1.2.1.1 s * sideZ σ.1.1.2.1 (σ.1.2.1.2 s) 1 σ.1.1.1
def shB0 (σ : SgZ) (s : Nat) : Int := sideZ σ.1.1.2.1 (σ.1.2.1.2 s) (-1) σ.1.1.1
def opValue (σ : SgZ) (s x : Int) : Int := if (0 ≤ s ∧ s < 4) ∧ (x = 0 ∨ x = 1) then (if x = 0 then shA0 σ s.toNat else shB0 σ s.toNat) else vOID
def opHeight (σ : SgZ) (s : Int) : Int := if 0 ≤ s ∧ s < 4 then topZ (σ.1.2.1.2 s.toNat) 4 else -1
def opIsIn (σ : SgZ) (s : Int) : Int := if 0 ≤ s ∧ s < 4 then (if inBoxZ (σ.1.2.1.2 s.toNat) σ.1.1.2.2 σ.1.1.1 0 then 1 else 0) else -1
def joinE (σ : SgZ) (a b : Nat) (t : Int) : Nat → Int := fun i => σ.1.2.1.2 a i + t * σ.1.2.1.2 b i
def opJoin (σ : SgZ) (a b to t : Int) : RgZ :=
  if (0 ≤ a ∧ a < 4) ∧ (0 ≤ b ∧ b < 4) ∧ (0 ≤ to ∧ to < 4) then (if topZ (joinE σ a.toNat b.toNat t) 4 ≤ 6 then (1, setSh σ to.toNat (σ.1.2.1.1 a.toNat * σ.1.2.1.1 b.toNat) (joinE σ a.toNat b.toNat t)) else (-6, σ)) else (-1, σ)
theorem prodZ_pos {p : Nat → Int} : ∀ n, (∀ i, i < n → 0 < p i) → 0 < prodZ p n
  | 0, _ => by show (0 : Int) < 1; decide
  | n + 1, hp => Int.mul_pos (prodZ_pos n (fun i hi => hp i (by omega))) (hp n (by omega))
theorem prmZ_in {v lo hi : Int} (h : prmZ v lo hi = true) : lo ≤ v ∧ v ≤ hi := by
  unfold prmZ at h
  rw [Bool.and_eq_true] at h
  exact of_decide_eq_true h.1
theorem prmZ_pr {v lo hi : Int} (h : prmZ v lo hi = true) : isPr v = true := by
  unfold prmZ at h
  rw [Bool.and_eq_true] at h
  exact h.2
theorem opPrime_add {σ : SgZ} {v : Int} (c7 : prmZ v 2 31 = true) (c26 : fndZ σ.1.1.2.1 v σ.1.1.1 0 = -1) (hn : σ.1.1.1 < 4) (hp : prodZ σ.1.1.2.1 σ.1.1.1 * v ≤ 1000) : opPrime σ v = ((σ.1.1.1 : Int) + 1, (((σ.1.1.1 + 1, insR (insAt σ.1.1.2.1 v σ.1.1.1) σ.1.1.1 v σ.1.1.2.1, insR (insAt σ.1.1.2.1 v σ.1.1.1) σ.1.1.1 2 σ.1.1.2.2), (σ.1.2.1.1, fun s => insR (insAt σ.1.1.2.1 v σ.1.1.1) 3 0 (σ.1.2.1.2 s)), rmS σ.1.2.2.1 σ.1.2.2.2 (fndZ σ.1.2.2.2 v σ.1.2.2.1 0)), σ.2)) := by
  unfold opPrime; rw [if_neg (by rw [c7]; decide), if_neg (by omega), if_neg (by omega)]
theorem IA_prime {h : sw_H} {σ : SgZ} {v : Int} (K : okS σ) (I : IA h σ) (v1 : 2 ≤ v) (v2 : v ≤ 31) (hn : σ.1.1.1 < 4) :
    IA (sw_wI (sw_wI (sRm (shMap (insR (insAt σ.1.1.2.1 v σ.1.1.1) 3 (zI 0)) 4 (sw_wI (sw_pI (sw_pI h 3 (insR (insAt σ.1.1.2.1 v σ.1.1.1) σ.1.1.1 (zI v) (h.1 3))) 4 (insR (insAt σ.1.1.2.1 v σ.1.1.1) σ.1.1.1 (zI 2) (h.1 4))) 2 2 (zI (σ.1.1.1 + 1)))) 6 7 σ.1.2.2.1 (fndZ σ.1.2.2.2 v σ.1.2.2.1 0)) 0 12 (zI 0)) 0 13 (zI 0))
      (((σ.1.1.1 + 1, insR (insAt σ.1.1.2.1 v σ.1.1.1) σ.1.1.1 v σ.1.1.2.1, insR (insAt σ.1.1.2.1 v σ.1.1.1) σ.1.1.1 2 σ.1.1.2.2), (σ.1.2.1.1, fun s => insR (insAt σ.1.1.2.1 v σ.1.1.1) 3 0 (σ.1.2.1.2 s)), rmS σ.1.2.2.1 σ.1.2.2.2 (fndZ σ.1.2.2.2 v σ.1.2.2.1 0)), σ.2) ∧
    (sw_wI (sw_wI (sRm (shMap (insR (insAt σ.1.1.2.1 v σ.1.1.1) 3 (zI 0)) 4 (sw_wI (sw_pI (sw_pI h 3 (insR (insAt σ.1.1.2.1 v σ.1.1.1) σ.1.1.1 (zI v) (h.1 3))) 4 (insR (insAt σ.1.1.2.1 v σ.1.1.1) σ.1.1.1 (zI 2) (h.1 4))) 2 2 (zI (σ.1.1.1 + 1)))) 6 7 σ.1.2.2.1 (fndZ σ.1.2.2.2 v σ.1.2.2.1 0)) 0 12 (zI 0)) 0 13 (zI 0)).1 2 2 = zI (σ.1.1.1 + 1) := by
  obtain ⟨w1, w2, w3, w4, w5⟩ := I.1
  have hat := insAt_le σ.1.1.2.1 v σ.1.1.1
  generalize hT : insAt σ.1.1.2.1 v σ.1.1.1 = t at hat ⊢
  generalize hg : sw_wI (sw_pI (sw_pI h 3 (insR t σ.1.1.1 (zI v) (h.1 3))) 4 (insR t σ.1.1.1 (zI 2) (h.1 4))) 2 2 (zI (σ.1.1.1 + 1)) = g
  have g0 : ∀ a, a ≠ 2 → a ≠ 3 → a ≠ 4 → g.1 a = h.1 a := fun a h1 h2 h3 => by rw [← hg, sw_wI_ne h1, sw_pI_ne h3, sw_pI_ne h2]
  have g3 : g.1 3 = insR t σ.1.1.1 (zI v) (h.1 3) := by rw [← hg, sw_wI_ne (by decide), sw_pI_ne (by decide), sw_pI_at]
  have g4 : g.1 4 = insR t σ.1.1.1 (zI 2) (h.1 4) := by rw [← hg, sw_wI_ne (by decide), sw_pI_at]
  have g2 : g.1 2 2 = zI (σ.1.1.1 + 1) := by rw [← hg, sw_wI_at]; simp [va_up]
  have gL : g.2 = h.2 := by rw [← hg]; rfl
  generalize hm : shMap (insR t 3 (zI 0)) 4 g = m
  have m0 : ∀ a, a % 2 = 0 ∨ a < 9 ∨ 17 ≤ a → m.1 a = g.1 a := fun a ha => by rw [← hm, shMap_ne (by omega)]
  have mL : m.2 = h.2 := by rw [← hm]; exact gL
  have mS : ∀ s, s < 4 → m.1 (9 + 2 * s) = insR t 3 (zI 0) (h.1 (9 + 2 * s)) := fun s hs => by rw [← hm, shMap_at hs, g0 _ (by omega) (by omega) (by omega)]
  have VS : atS m 6 7 (σ.1.2.2.1, σ.1.2.2.2) := ⟨by rw [m0 6 (by omega), g0 6 (by decide) (by decide) (by decide)]; exact w4, fun i hi => by rw [m0 7 (by omega), g0 7 (by decide) (by decide) (by decide)]; exact w5 i hi⟩
  obtain ⟨S1, f, k9, S2⟩ := sRm_at isS_now VS (fndZ σ.1.2.2.2 v σ.1.2.2.1 0) (by have := fndZ_in σ.1.2.2.2 v σ.1.2.2.1 0; omega)
  generalize hr : sRm m 6 7 σ.1.2.2.1 (fndZ σ.1.2.2.2 v σ.1.2.2.1 0) = r at S1 S2
  have r0 : ∀ a, a ≠ 6 → a ≠ 7 → r.1 a = m.1 a := fun a h1 h2 => by rw [S2, sw_wI_ne h1, sw_pI_ne h2]
  have rL : r.2 = h.2 := by rw [S2]; exact mL
  obtain ⟨p1, p2, p3⟩ := pc_at (h := r)
  have pn : ∀ a, 0 < a → (sw_wI (sw_wI r 0 12 (zI 0)) 0 13 (zI 0)).1 a = r.1 a := fun a ha => (pc_ne ha).1
  have big : ∀ a, 16 ≤ a → (sw_wI (sw_wI r 0 12 (zI 0)) 0 13 (zI 0)).1 a = h.1 a := fun a ha => by
    rw [pn a (by omega), r0 a (by omega) (by omega), m0 a (by omega), g0 a (by omega) (by omega) (by omega)]
  have e2 : (sw_wI (sw_wI r 0 12 (zI 0)) 0 13 (zI 0)).1 2 2 = zI (σ.1.1.1 + 1) := by rw [pn 2 (by decide), r0 2 (by decide) (by decide), m0 2 (by decide)]; exact g2
  refine ⟨IA_new I (fun a ha => ⟨big a ha, by show r.2 a = _; rw [rL]⟩) (by rw [p1, r0 0 (by decide) (by decide), m0 0 (by decide), g0 0 (by decide) (by decide) (by decide)]) ⟨?_, ?_, ?_, ?_, ?_⟩ p2 p3, e2⟩
  · exact e2
  · intro i hi
    have hi : i < σ.1.1.1 + 1 := hi
    rw [pn 3 (by decide), pn 4 (by decide), r0 3 (by decide) (by decide), r0 4 (by decide) (by decide), m0 3 (by decide), m0 4 (by decide), g3, g4]
    exact ⟨insR_map (fun a b => a = zI b) rfl (fun j hj => (w2 j hj).1) hat hi, insR_map (fun a b => a = zI b) rfl (fun j hj => (w2 j hj).2) hat hi⟩
  · intro s hs
    rw [pn _ (by omega), pn _ (by omega), r0 _ (by omega) (by omega), r0 _ (by omega) (by omega), m0 (1 + 7 + 2 * s) (by omega), g0 _ (by omega) (by omega) (by omega), show 1 + 8 + 2 * s = 9 + 2 * s by omega, mS s hs]
    refine ⟨(w3 s hs).1, fun i hi => ?_⟩
    refine insR_map (fun a b => a = zI b) rfl (fun j hj => ?_) (by omega) hi
    have := (w3 s hs).2 j (by omega)
    rw [show 1 + 8 + 2 * s = 9 + 2 * s by omega] at this
    exact this
  · rw [pn _ (by decide)]; exact S1.1
  · intro i hi; rw [pn _ (by decide)]; exact S1.2 i hi
theorem IA_drop {h : sw_H} {σ : SgZ} {a : Nat} (K : okS σ) (I : IA h σ) (ha : a < σ.1.1.1) :
    IA (sw_wI (sw_wI (shMap (fun f => va_up (rmR a 3 f) 3 (zI 0)) 4 (sw_wI (sw_pI (sw_pI h 3 (rmR a (σ.1.1.1 - 1) (h.1 3))) 4 (rmR a (σ.1.1.1 - 1) (h.1 4))) 2 2 (zI (σ.1.1.1 - 1 : Nat)))) 0 12 (zI 0)) 0 13 (zI 0))
      (((σ.1.1.1 - 1, rmR a (σ.1.1.1 - 1) σ.1.1.2.1, rmR a (σ.1.1.1 - 1) σ.1.1.2.2), (σ.1.2.1.1, fun s => va_up (rmR a 3 (σ.1.2.1.2 s)) 3 0), σ.1.2.2), σ.2) ∧
    (sw_wI (sw_wI (shMap (fun f => va_up (rmR a 3 f) 3 (zI 0)) 4 (sw_wI (sw_pI (sw_pI h 3 (rmR a (σ.1.1.1 - 1) (h.1 3))) 4 (rmR a (σ.1.1.1 - 1) (h.1 4))) 2 2 (zI (σ.1.1.1 - 1 : Nat)))) 0 12 (zI 0)) 0 13 (zI 0)).1 2 2 = zI (σ.1.1.1 - 1 : Nat) := by
  obtain ⟨w1, w2, w3, w4, w5⟩ := I.1
  generalize hg : sw_wI (sw_pI (sw_pI h 3 (rmR a (σ.1.1.1 - 1) (h.1 3))) 4 (rmR a (σ.1.1.1 - 1) (h.1 4))) 2 2 (zI (σ.1.1.1 - 1 : Nat)) = g
  have g0 : ∀ a, a ≠ 2 → a ≠ 3 → a ≠ 4 → g.1 a = h.1 a := fun a h1 h2 h3 => by rw [← hg, sw_wI_ne h1, sw_pI_ne h3, sw_pI_ne h2]
  have g3 : g.1 3 = rmR a (σ.1.1.1 - 1) (h.1 3) := by rw [← hg, sw_wI_ne (by decide), sw_pI_ne (by decide), sw_pI_at]
  have g4 : g.1 4 = rmR a (σ.1.1.1 - 1) (h.1 4) := by rw [← hg, sw_wI_ne (by decide), sw_pI_at]
  have g2 : g.1 2 2 = zI (σ.1.1.1 - 1 : Nat) := by rw [← hg, sw_wI_at]; simp [va_up]
  have gL : g.2 = h.2 := by rw [← hg]; rfl
  generalize hm : shMap (fun f => va_up (rmR a 3 f) 3 (zI 0)) 4 g = m
  have m0 : ∀ a, a % 2 = 0 ∨ a < 9 ∨ 17 ≤ a → m.1 a = g.1 a := fun a ha => by rw [← hm, shMap_ne (by omega)]
  have mL : m.2 = h.2 := by rw [← hm]; exact gL
  have mS : ∀ s, s < 4 → m.1 (9 + 2 * s) = va_up (rmR a 3 (h.1 (9 + 2 * s))) 3 (zI 0) := fun s hs => by rw [← hm, shMap_at hs, g0 _ (by omega) (by omega) (by omega)]
  obtain ⟨p1, p2, p3⟩ := pc_at (h := m)
  have pn : ∀ a, 0 < a → (sw_wI (sw_wI m 0 12 (zI 0)) 0 13 (zI 0)).1 a = m.1 a := fun a ha => (pc_ne ha).1
  have big : ∀ a, 16 ≤ a → (sw_wI (sw_wI m 0 12 (zI 0)) 0 13 (zI 0)).1 a = h.1 a := fun a ha => by
    rw [pn a (by omega), m0 a (by omega), g0 a (by omega) (by omega) (by omega)]
  have e2 : (sw_wI (sw_wI m 0 12 (zI 0)) 0 13 (zI 0)).1 2 2 = zI (σ.1.1.1 - 1 : Nat) := by rw [pn 2 (by decide), m0 2 (by decide)]; exact g2
  have rmap : ∀ {f : Nat → Int32} {q : Nat → Int} {m9 : Nat}, (∀ i, i < m9 + 1 → f i = zI (q i)) → ∀ i, i < m9 → rmR a m9 f i = zI (rmR a m9 q i) := by
    intro f q m9 hf i hi
    unfold rmR
    by_cases c : a ≤ i ∧ i < m9
    · rw [if_pos c, if_pos c]; exact hf _ (by omega)
    · rw [if_neg c, if_neg c]; exact hf _ (by omega)
  refine ⟨IA_new I (fun a ha => ⟨big a ha, by show m.2 a = _; rw [mL]⟩) (by rw [p1, m0 0 (by decide), g0 0 (by decide) (by decide) (by decide)]) ⟨?_, ?_, ?_, ?_, ?_⟩ p2 p3, e2⟩
  · exact e2
  · intro i hi
    have hi : i < σ.1.1.1 - 1 := hi
    rw [pn 3 (by decide), pn 4 (by decide), m0 3 (by decide), m0 4 (by decide), g3, g4]
    exact ⟨rmap (fun j hj => (w2 j (by omega)).1) i hi, rmap (fun j hj => (w2 j (by omega)).2) i hi⟩
  · intro s hs
    rw [pn _ (by omega), pn _ (by omega), m0 (1 + 7 + 2 * s) (by omega), g0 _ (by omega) (by omega) (by omega), show 1 + 8 + 2 * s = 9 + 2 * s by omega, mS s hs]
    refine ⟨(w3 s hs).1, fun i hi => ?_⟩
    show va_up (rmR a 3 (h.1 (9 + 2 * s))) 3 (zI 0) i = zI (va_up (rmR a 3 (σ.1.2.1.2 s)) 3 0 i)
    by_cases c : i = 3
    · simp only [va_up, if_pos c]
    · simp only [va_up, if_neg c]
      refine rmap (fun j hj => ?_) i (by omega)
      have := (w3 s hs).2 j (by omega)
      rw [show 1 + 8 + 2 * s = 9 + 2 * s by omega] at this
      exact this
  · rw [pn _ (by decide), m0 _ (by decide), g0 _ (by decide) (by decide) (by decide)]; exact w4
  · intro i hi; rw [pn _ (by decide), m0 _ (by decide), g0 _ (by decide) (by decide) (by decide)]; exact w5 i hi
section sw_ops1
variable {X : sw_X} {l : Launch} {d : Nat} {h : sw_H} {σ : SgZ}
theorem a_primeOf (K : okS σ) (I : IA h σ) {i : Int} (i1 : -2147483648 ≤ i) (i2 : i < 2147483648) : sw_ct wA X l (d + 1) mX11_primeOf [.ref 0, .int (zI i)] h (sw_qI wA X fun r h2 => IA h2 σ ∧ r = zI (opPrimeOf σ i)) := by
  have V := IA_B K I
  obtain ⟨v1, v2, v3, v4⟩ := V
  refine sw_ct_of (by decide +kernel) (Nat.le_of_ble_eq_true rfl) rfl ?_
  refine sw_aload_n 1 dX11_primeOf_0 rfl rfl rfl ?_
  refine sw_getR (b := 1) 4 dX11_primeOf_1 rfl gf_RX11_12 (fun _ _ _ _ => rfl) ⟨by decide, rfl⟩ rfl ?_
  refine sw_getR (b := 2) 7 dX11_primeOf_4 rfl gf_RX11_86 (fun _ _ _ _ => rfl) ⟨by decide, rfl⟩ rfl ?_
  refine sw_iload_n 8 dX11_primeOf_7 rfl rfl rfl ?_
  refine sw_invVI 11 dX11_primeOf_8 rfl lk_RX11_110 (c_B_has isB_now v1 (by omega) i1 i2) ⟨by decide, rfl⟩ rfl rfl (Nat.le_of_ble_eq_true rfl) (fun r8 h8 hq8 => ?_)
  obtain ⟨rfl, rfl⟩ := hq8
  refine sw_if_eq 29 14 dX11_primeOf_11 (by decide) rfl (fun c11 => ?_) (fun c11 => ?_)
  · rw [ifz_eq] at c11
    refine sw_iconst (v := zI (-1)) 30 dX11_primeOf_29 rfl (by decide) ?_
    exact sw_iret dX11_primeOf_30 rfl (⟨I, by unfold opPrimeOf; rw [if_neg c11]⟩)
  · rw [ifz_eq, Decidable.not_not] at c11
    refine sw_aload_n 15 dX11_primeOf_14 rfl rfl rfl ?_
    refine sw_getR (b := 1) 18 dX11_primeOf_15 rfl gf_RX11_12 (fun _ _ _ _ => rfl) ⟨by decide, rfl⟩ rfl ?_
    refine sw_getR (b := 2) 21 dX11_primeOf_18 rfl gf_RX11_86 (fun _ _ _ _ => rfl) ⟨by decide, rfl⟩ rfl ?_
    refine sw_getR (b := 3) 24 dX11_primeOf_21 rfl gf_RX11_117 (fun _ _ _ _ => rfl) ⟨by decide, rfl⟩ rfl ?_
    refine sw_iload_n 25 dX11_primeOf_24 rfl rfl rfl ?_
    refine sw_iald 26 dX11_primeOf_25 rfl ⟨by decide, rfl⟩ (zI_in c11.1 (by omega) (by decide)) ?_
    refine sw_goto 30 dX11_primeOf_26 (by decide) ?_
    exact sw_iret dX11_primeOf_30 rfl (⟨I, by rw [zI_clamp (by omega) (by omega), (v3 i.toNat (by omega)).1]; unfold opPrimeOf; rw [if_pos c11]⟩)
theorem a_boxOf (K : okS σ) (I : IA h σ) {i : Int} (i1 : -2147483648 ≤ i) (i2 : i < 2147483648) : sw_ct wA X l (d + 1) mX11_boxOf [.ref 0, .int (zI i)] h (sw_qI wA X fun r h2 => IA h2 σ ∧ r = zI (opBoxOf σ i)) := by
  have V := IA_B K I
  obtain ⟨v1, v2, v3, v4⟩ := V
  refine sw_ct_of (by decide +kernel) (Nat.le_of_ble_eq_true rfl) rfl ?_
  refine sw_aload_n 1 dX11_boxOf_0 rfl rfl rfl ?_
  refine sw_getR (b := 1) 4 dX11_boxOf_1 rfl gf_RX11_12 (fun _ _ _ _ => rfl) ⟨by decide, rfl⟩ rfl ?_
  refine sw_getR (b := 2) 7 dX11_boxOf_4 rfl gf_RX11_86 (fun _ _ _ _ => rfl) ⟨by decide, rfl⟩ rfl ?_
  refine sw_iload_n 8 dX11_boxOf_7 rfl rfl rfl ?_
  refine sw_invVI 11 dX11_boxOf_8 rfl lk_RX11_110 (c_B_has isB_now v1 (by omega) i1 i2) ⟨by decide, rfl⟩ rfl rfl (Nat.le_of_ble_eq_true rfl) (fun r8 h8 hq8 => ?_)
  obtain ⟨rfl, rfl⟩ := hq8
  refine sw_if_eq 29 14 dX11_boxOf_11 (by decide) rfl (fun c11 => ?_) (fun c11 => ?_)
  · rw [ifz_eq] at c11
    refine sw_iconst (v := zI (-1)) 30 dX11_boxOf_29 rfl (by decide) ?_
    exact sw_iret dX11_boxOf_30 rfl (⟨I, by unfold opBoxOf; rw [if_neg c11]⟩)
  · rw [ifz_eq, Decidable.not_not] at c11
    refine sw_aload_n 15 dX11_boxOf_14 rfl rfl rfl ?_
    refine sw_getR (b := 1) 18 dX11_boxOf_15 rfl gf_RX11_12 (fun _ _ _ _ => rfl) ⟨by decide, rfl⟩ rfl ?_
    refine sw_getR (b := 2) 21 dX11_boxOf_18 rfl gf_RX11_86 (fun _ _ _ _ => rfl) ⟨by decide, rfl⟩ rfl ?_
    refine sw_getR (b := 4) 24 dX11_boxOf_21 rfl gf_RX11_121 (fun _ _ _ _ => rfl) ⟨by decide, rfl⟩ rfl ?_
    refine sw_iload_n 25 dX11_boxOf_24 rfl rfl rfl ?_
    refine sw_iald 26 dX11_boxOf_25 rfl ⟨by decide, rfl⟩ (zI_in c11.1 (by omega) (by decide)) ?_
    refine sw_goto 30 dX11_boxOf_26 (by decide) ?_
    exact sw_iret dX11_boxOf_30 rfl (⟨I, by rw [zI_clamp (by omega) (by omega), (v4 i.toNat (by omega)).1]; unfold opBoxOf; rw [if_pos c11]⟩)
theorem a_prime (K : okS σ) (I : IA h σ) {v : Int} (i1 : -2147483648 ≤ v) (i2 : v < 2147483648) : sw_ct wA X l (d + 3) mX11_prime [.ref 0, .int (zI v)] h (sw_qI wA X fun r h2 => IA h2 (opPrime σ v).2 ∧ r = zI (opPrime σ v).1) := by
  have V := IA_B K I
  have V0 := V
  obtain ⟨v1, v2, v3, v4⟩ := V
  obtain ⟨w1, w2, w3, w4, w5⟩ := I.1
  have kq := K.1.2.2
  have hpr : prodZ σ.1.1.2.1 σ.1.1.1 ≤ 1000 := K.1.1.2.2.2.1
  have hpo : 0 < prodZ σ.1.1.2.1 σ.1.1.1 := prodZ_pos _ (fun i hi => by have := (v3 i hi).2.1; omega)
  have fr := fndZ_in σ.1.1.2.1 v σ.1.1.1 0
  have hat := insAt_le σ.1.1.2.1 v σ.1.1.1
  refine sw_ct_of (by decide +kernel) (Nat.le_of_ble_eq_true rfl) rfl ?_
  refine sw_iload_n 1 dX11_prime_0 rfl rfl rfl ?_
  refine sw_iconst (v := zI 2) 2 dX11_prime_1 rfl (by decide) ?_
  refine sw_bipush (v := zI 31) 4 dX11_prime_2 rfl (by decide) ?_
  refine sw_invSI 7 dX11_prime_4 rfl lk_RX11_82 (c_isPrimeWithin i1 i2 (by decide) (by decide) (by decide) (by decide)) rfl rfl (Nat.le_of_ble_eq_true rfl) (fun r4 h4 hq4 => ?_)
  obtain ⟨rfl, rfl⟩ := hq4
  refine sw_if_ne 13 10 dX11_prime_7 (by decide) rfl (fun c7 => ?_) (fun c7 => ?_)
  · rw [bIz_eq, Bool.not_eq_false] at c7
    have hv : 2 ≤ v ∧ v ≤ 31 := prmZ_in c7
    have hm : prodZ σ.1.1.2.1 σ.1.1.1 * v ≤ 1000 * 31 := Int.mul_le_mul hpr hv.2 (by omega) (by omega)
    have hm0 : 0 ≤ prodZ σ.1.1.2.1 σ.1.1.1 * v := Int.mul_nonneg (by omega) (by omega)
    refine sw_aload_n 14 dX11_prime_13 rfl rfl rfl ?_
    refine sw_getR (b := 1) 17 dX11_prime_14 rfl gf_RX11_12 (fun _ _ _ _ => rfl) ⟨by decide, rfl⟩ rfl ?_
    refine sw_getR (b := 2) 20 dX11_prime_17 rfl gf_RX11_86 (fun _ _ _ _ => rfl) ⟨by decide, rfl⟩ rfl ?_
    refine sw_astore_n (lc' := [(0, _), (1, _), (2, _)]) 21 dX11_prime_20 rfl rfl (by decide) rfl ?_
    refine sw_aload_n 22 dX11_prime_21 rfl rfl rfl ?_
    refine sw_iload_n 23 dX11_prime_22 rfl rfl rfl ?_
    refine sw_invVI 26 dX11_prime_23 rfl lk_RX11_90 (c_B_placeOf isB_now V0 i1 i2) ⟨by decide, rfl⟩ rfl rfl (Nat.le_of_ble_eq_true rfl) (fun r23 h23 hq23 => ?_)
    obtain ⟨rfl, rfl⟩ := hq23
    refine sw_if_lt 32 29 dX11_prime_26 (by decide) rfl (fun c26 => ?_) (fun c26 => ?_)
    · rw [z0, zI_lt (by omega) (by omega) (by omega) (by omega)] at c26
      refine sw_aload_n 33 dX11_prime_32 rfl rfl rfl ?_
      refine sw_getI 36 dX11_prime_33 rfl gf_RX11_96 rfl ⟨by decide, rfl⟩ ?_
      refine sw_iconst (v := zI 4) 37 dX11_prime_36 rfl (by decide) ?_
      rw [v1]
      refine sw_icmp_ge 52 40 dX11_prime_37 (by decide) rfl (fun c37 => ?_) (fun c37 => ?_)
      · refine sw_bipush (v := zI (-4)) 54 dX11_prime_52 rfl (by decide) ?_
        exact sw_iret dX11_prime_54 rfl (by
  rw [zI_le (by omega) (by omega) (by omega) (by omega)] at c37
  have e : opPrime σ v = (-4, σ) := by unfold opPrime; rw [if_neg (by rw [c7]; decide), if_neg (by omega), if_pos (by omega)]
  rw [e]; exact ⟨I, rfl⟩)
      · rw [zI_le (by omega) (by omega) (by omega) (by omega)] at c37
        refine sw_aload_n 41 dX11_prime_40 rfl rfl rfl ?_
        refine sw_invVI 44 dX11_prime_41 rfl lk_RX11_100 (c_B_product isB_now V0) ⟨by decide, rfl⟩ rfl rfl (Nat.le_of_ble_eq_true rfl) (fun r41 h41 hq41 => ?_)
        obtain ⟨rfl, rfl⟩ := hq41
        refine sw_iload_n 45 dX11_prime_44 rfl rfl rfl ?_
        refine sw_imul 46 dX11_prime_45 rfl ?_
        refine sw_sipush (v := zI 1000) 49 dX11_prime_46 rfl (by decide) ?_
        rw [zI_mul]
        refine sw_icmp_le 55 52 dX11_prime_49 (by decide) rfl (fun c49 => ?_) (fun c49 => ?_)
        · rw [zI_le (by omega) (by omega) (by omega) (by omega)] at c49
          refine sw_aload_n 56 dX11_prime_55 rfl rfl rfl ?_
          refine sw_getR (b := 1) 59 dX11_prime_56 rfl gf_RX11_12 (fun _ _ _ _ => rfl) ⟨by decide, rfl⟩ rfl ?_
          refine sw_iload_n 60 dX11_prime_59 rfl rfl rfl ?_
          refine sw_invVV 63 dX11_prime_60 rfl lk_RX11_104 (c_D_addPrime (q := σ.1.2.2.2) V0 (by omega) w4 kq.1 (fun i hi => ⟨w5 i hi, (kq.2.1 i hi).2.1, (kq.2.1 i hi).2.2.1⟩) hv.1 hv.2) ⟨by decide, rfl⟩ rfl rfl (Nat.le_of_ble_eq_true rfl) (fun h60 hq60 => ?_)
          subst hq60
          refine sw_aload_n 64 dX11_prime_63 rfl rfl rfl ?_
          refine sw_invVV 67 dX11_prime_64 rfl lk_RX11_107 (c_primesChanged) ⟨by decide, rfl⟩ rfl rfl (Nat.le_of_ble_eq_true rfl) (fun h64 hq64 => ?_)
          subst hq64
          refine sw_aload_n 68 dX11_prime_67 rfl rfl rfl ?_
          refine sw_getI 71 dX11_prime_68 rfl gf_RX11_96 rfl ⟨by decide, rfl⟩ ?_
          exact sw_iret dX11_prime_71 rfl (by
  have e := opPrime_add (σ := σ) (v := v) c7 (by omega) (by omega) (by omega)
  rw [e]; exact IA_prime K I hv.1 hv.2 (by omega))
        · refine sw_bipush (v := zI (-4)) 54 dX11_prime_52 rfl (by decide) ?_
          exact sw_iret dX11_prime_54 rfl (by
  rw [zI_le (by omega) (by omega) (by omega) (by omega)] at c49
  have e : opPrime σ v = (-4, σ) := by unfold opPrime; rw [if_neg (by rw [c7]; decide), if_neg (by omega), if_pos (by omega)]
  rw [e]; exact ⟨I, rfl⟩)
    · rw [z0, zI_lt (by omega) (by omega) (by omega) (by omega)] at c26
      refine sw_bipush (v := zI (-3)) 31 dX11_prime_29 rfl (by decide) ?_
      exact sw_iret dX11_prime_31 rfl (⟨by unfold opPrime; rw [if_neg (by rw [c7]; decide), if_pos (by omega)]; exact I, by unfold opPrime; rw [if_neg (by rw [c7]; decide), if_pos (by omega)]⟩)
  · rw [bIz_eq] at c7
    refine sw_bipush (v := zI (-2)) 12 dX11_prime_10 rfl (by decide) ?_
    exact sw_iret dX11_prime_12 rfl (⟨by unfold opPrime; rw [if_pos c7]; exact I, by unfold opPrime; rw [if_pos c7]⟩)
theorem a_drop (K : okS σ) (I : IA h σ) {i : Int} (i1 : -2147483648 ≤ i) (i2 : i < 2147483648) : sw_ct wA X l (d + 3) mX11_drop [.ref 0, .int (zI i)] h (sw_qI wA X fun r h2 => IA h2 (opDrop σ i).2 ∧ r = zI (opDrop σ i).1) := by
  have V0 := IA_B K I
  have v1 := V0.1
  have v2 := V0.2.1
  refine sw_ct_of (by decide +kernel) (Nat.le_of_ble_eq_true rfl) rfl ?_
  refine sw_aload_n 1 dX11_drop_0 rfl rfl rfl ?_
  refine sw_getR (b := 1) 4 dX11_drop_1 rfl gf_RX11_12 (fun _ _ _ _ => rfl) ⟨by decide, rfl⟩ rfl ?_
  refine sw_getR (b := 2) 7 dX11_drop_4 rfl gf_RX11_86 (fun _ _ _ _ => rfl) ⟨by decide, rfl⟩ rfl ?_
  refine sw_iload_n 8 dX11_drop_7 rfl rfl rfl ?_
  refine sw_invVI 11 dX11_drop_8 rfl lk_RX11_110 (c_B_has isB_now v1 (by omega) i1 i2) ⟨by decide, rfl⟩ rfl rfl (Nat.le_of_ble_eq_true rfl) (fun r8 h8 hq8 => ?_)
  obtain ⟨rfl, rfl⟩ := hq8
  refine sw_if_ne 16 14 dX11_drop_11 (by decide) rfl (fun c11 => ?_) (fun c11 => ?_)
  · rw [ifz_eq, Decidable.not_not] at c11
    obtain ⟨a, rfl⟩ := Int.eq_ofNat_of_zero_le c11.1
    refine sw_aload_n 17 dX11_drop_16 rfl rfl rfl ?_
    refine sw_getR (b := 1) 20 dX11_drop_17 rfl gf_RX11_12 (fun _ _ _ _ => rfl) ⟨by decide, rfl⟩ rfl ?_
    refine sw_iload_n 21 dX11_drop_20 rfl rfl rfl ?_
    refine sw_invVV 24 dX11_drop_21 rfl lk_RX11_114 (c_D_removePrime V0 (show a < σ.1.1.1 by omega)) ⟨by decide, rfl⟩ rfl rfl (Nat.le_of_ble_eq_true rfl) (fun h21 hq21 => ?_)
    subst hq21
    refine sw_aload_n 25 dX11_drop_24 rfl rfl rfl ?_
    refine sw_invVV 28 dX11_drop_25 rfl lk_RX11_107 (c_primesChanged) ⟨by decide, rfl⟩ rfl rfl (Nat.le_of_ble_eq_true rfl) (fun h25 hq25 => ?_)
    subst hq25
    refine sw_aload_n 29 dX11_drop_28 rfl rfl rfl ?_
    refine sw_getR (b := 1) 32 dX11_drop_29 rfl gf_RX11_12 (fun _ _ _ _ => rfl) ⟨by decide, rfl⟩ rfl ?_
    refine sw_getR (b := 2) 35 dX11_drop_32 rfl gf_RX11_86 (fun _ _ _ _ => rfl) ⟨by decide, rfl⟩ rfl ?_
    refine sw_getI 38 dX11_drop_35 rfl gf_RX11_96 rfl ⟨by decide, rfl⟩ ?_
    exact sw_iret dX11_drop_38 rfl (by
  unfold opDrop; rw [if_pos c11]; exact IA_drop K I (show a < σ.1.1.1 by omega))
  · rw [ifz_eq] at c11
    refine sw_iconst (v := zI (-1)) 15 dX11_drop_14 rfl (by decide) ?_
    exact sw_iret dX11_drop_15 rfl (⟨by unfold opDrop; rw [if_neg c11]; exact I, by unfold opDrop; rw [if_neg c11]⟩)
end sw_ops1
