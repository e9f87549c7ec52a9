/-! CONSTRUCTORS: rows of rows; two calls of the JDK -/
section sw_cons3
variable {X : sw_X} {l : Launch} {d : Nat} {y : sw_M} {mc ms sz : Nat} {w0 : va_W} {Qc : sw_Q} {pc : Nat} {lc lc' : List (Nat × Value)} {st : List Value} {ws : va_W} {k n : Nat}
def cn_mm (cA cB N : Nat) (a0 : vp_A) (u : Nat → Nat) : va_W := (u 0, .inl (cA, N, .inr (.inr (.inr (.inr fun j => some (u (1 + j))))))) :: (List.range N).map fun j => (u (1 + j), .inl (cB, a0))
theorem cn_mm_at {cA cB N : Nat} {a0 : vp_A} {u : Nat → Nat} {i : Nat} {z : Nat × va_E} (h : (cn_mm cA cB N a0 u)[i]? = some z) : z.1 = u i ∧ i < N + 1 := by
  unfold cn_mm at h
  cases i with
  | zero => cases h; exact ⟨rfl, by omega⟩
  | succ i =>
    rw [List.getElem?_cons_succ, List.getElem?_map] at h
    by_cases hi : i < N
    · rw [List.getElem?_range hi] at h
      cases h
      exact ⟨by rw [Nat.add_comm], by omega⟩
    · rw [List.getElem?_eq_none (by rw [List.length_range]; omega)] at h
      cases h
theorem cn_multi (n' : Nat) {idx : Nat} {x z : Int32} {ty : FieldType} (t tb N M : Nat) (a0 : vp_A) (ht : (sw_ts X)[t]? = some (X.2.2.1 t, .array ty)) (htb : (sw_ts X)[tb]? = some (X.2.2.1 tb, ty)) (hra : ∀ (U : State) cB, va_RA U cB ty → U.vm.findClass ("[" ++ ty.toString) = some cB) (ha : ∀ cA : ClassId, vp_cell cA a0 = arrV cA M (fun _ => defaultValue ty)) (hao : ∀ s, cn_K X s → cn_AO ty s) (hcl : Cond.classLink y.1.cls idx ("[" ++ (FieldType.array ty).toString) ∈ sw_big) (harr : Cond.arrayClass ty ∈ sw_big)
    (hd : decode y.2.1 pc = .ok (.multianewarray idx 2, 4)) (hn : pc + 4 = n') (hx : ¬ x < 0) (hz9 : ¬ z < 0) (hN : x.toNatClampNeg = N) (hM : z.toNatClampNeg = M) (hb1 : N * 4 ≤ 536870912) (hb2 : M * componentBytes ty ≤ 536870912) (hb3 : M ≤ 536870912) (hfit : fits ty (defaultValue ty) = true) (hk : k + (1 + N) ≤ mc) (hm : n + (N + N * M) ≤ ms)
    (kk : ∀ u : Nat → Nat, cn_wp X l d y mc ms sz w0 Qc n' lc (.ref (u 0) :: st) (ws ++ cn_mm (X.2.2.1 t) (X.2.2.1 tb) N a0 u) (k + 1 + N) (n + N + N * M)) : cn_wp X l d y mc ms sz w0 Qc pc lc (.int z :: .int x :: st) ws k n := by
  subst hn
  intro p e s m args below meth c s₁ B hml hK hz H locs hP hD hS ls hl
  have hts := atoms_spec (ws := sw_mw y) B.pre
  refine W.multi (g := F0 m pc ls (.int z :: .int x :: st)) B.exec B.bytes (findClass_of_methodNamed B.named) (hts _ (sw_mem hcl)) (hao s hK) (hts _ (sw_mem harr)) rfl hd rfl hx hz9 hN hM hb1 hb2 hb3 hfit hk hm (fun H1 lo cA cB f1 f2 s1 r1 r2 r3 r4 => ?_)
  have e1 : cA = X.2.2.1 t := Option.some.inj (f1.symm.trans (show s.vm.findClass ("[" ++ (FieldType.array ty).toString) = some (X.2.2.1 t) from (hK.1.2 t _ ht).2))
  have e2 : cB = X.2.2.1 tb := Option.some.inj (f2.symm.trans (hra s _ (hK.1.2 tb _ htb).2))
  subst e1; subst e2
  have hold : ∀ (i : Nat) (q : Nat × va_E), ws[i]? = some q → q.1 < H.size := fun i q h => (hP i q h).lt
  have P2 : va_P (X.1, X.2.1) sw_cl (ws ++ cn_mm (X.2.2.1 t) (X.2.2.1 tb) N a0 (fun j => H.size + j)) H1 := by
    refine va_P.app (fun i q h => (hP i q h).kept (r3 q.1 (hold i q h))) (fun i q h => ?_)
    unfold cn_mm at h
    cases i with
    | zero =>
      cases h
      show H1[H.size + 0]? = some (vp_cell _ _)
      rw [vp_cell_q, Nat.add_zero, r1]
      congr 2
      funext j
      show Value.ref (H.size + 1 + j) = Value.ref (H.size + (1 + j))
      rw [Nat.add_assoc]
    | succ i =>
      rw [List.getElem?_cons_succ, List.getElem?_map] at h
      by_cases hi : i < N
      · rw [List.getElem?_range hi] at h
        cases h
        show H1[H.size + (1 + i)]? = some (vp_cell _ _)
        rw [ha, ← Nat.add_assoc]
        exact r2 i hi
      · rw [List.getElem?_eq_none (by rw [List.length_range]; omega)] at h
        cases h
  have hsz : sz ≤ H.size := by rw [← hz]; exact hS.1
  have D2 : va_D (va_A w0 sz) (ws ++ cn_mm (X.2.2.1 t) (X.2.2.1 tb) N a0 (fun j => H.size + j)) := by
    refine va_D.app hD ⟨fun i j a b ha hb he => ?_, fun i q h => ?_⟩ (fun i j a b ha hb he => ?_)
    · have h1 := cn_mm_at ha
      have h2 := cn_mm_at hb
      have h3 : H.size + i = H.size + j := by rw [← h1.1, ← h2.1]; exact he
      omega
    · have h1 := (cn_mm_at h).1
      exact Or.inr (by rw [h1]; show sz ≤ H.size + i; omega)
    · have h1 := hold i a ha
      have h2 := (cn_mm_at hb).1
      rw [he, h2] at h1
      have h1 : H.size + j < H.size := h1
      omega
  have S2 : va_S (va_A w0 sz) s.heap H1 lo := by
    refine ⟨Nat.le_trans hS.1 (by omega), fun q h1 h2 => ?_, fun q hq => ?_⟩
    · rw [r3 q (Nat.lt_of_lt_of_le h1 hS.1)]; exact hS.2.1 q h1 h2
    · rcases r4 q hq with h | h
      · exact hS.2.2 q h
      · exact Or.inr (by rw [h]; exact hsz)
  exact kk (fun j => H.size + j) p e s m args below meth c s₁ B hml hK hz H1 lo P2 D2 S2 ls hl
/-- the world of no cell, the world of one row of ints -/
def cn_w0 : sw_W := (0, fun _ => .inl 0, fun _ _ => 0)
def cn_w1 (z : Nat) : sw_W := (1, fun _ => .inr (0, z), fun _ _ => 0)
theorem cn_no {z : Nat} : ¬ sw_A cn_w0 X z := fun ⟨a, ha, _⟩ => absurd ha (Nat.not_lt_zero a)
theorem cn_max (n' : Nat) {idx : Nat} {a b : Int} (a1 : -2147483648 ≤ a) (a2 : a < 2147483648) (b1 : -2147483648 ≤ b) (b2 : b < 2147483648) (g : sw_ms y.1.cls idx mJ9_max_7cf53 2) (hd : decode y.2.1 pc = .ok (.invokestatic idx, 3)) (hn : pc + 3 = n') (hw : (st.map fun v => v.category).sum ≤ 8) (hkc : k ≤ mc) (hkn : n ≤ ms)
    (kk : cn_wp X l (d + 1) y mc ms sz w0 Qc n' lc (.int (zI (max a b)) :: st) ws k n) : cn_wp X l (d + 1) y mc ms sz w0 Qc pc lc (.int (zI b) :: .int (zI a) :: st) ws k n := by
  subst hn
  intro p e s m args below meth c s₁ B hml hK hz H locs hP hD hS ls hl
  obtain ⟨⟨g2, g3, g5, g6⟩, g7, g8⟩ := g
  have hts := atoms_spec (ws := sw_mw y) B.pre
  have hown : s.vm.findClass y.1.cls = some m.cls := findClass_of_methodNamed B.named
  have hG : GoodIn (sw_mw y) (va_wsS y.1.cls idx mJ9_max_7cf53.1 (sw_mw mJ9_max_7cf53)) := by
    intro u hu
    rcases List.mem_append.mp hu with hu | hu
    · simp only [List.mem_cons, List.not_mem_nil, or_false] at hu
      rcases hu with rfl | rfl | rfl
      · exact sw_good1 g2
      · exact sw_good1 g3
      · exact sw_good1 g5
    · exact sw_good g6 u hu
  have C := c_maxZ (w := cn_w0) (X := X) (l := l) (d := d) (h := (fun _ _ => 0, fun _ _ => 0)) a1 a2 b1 b2
  have hP0 : ∀ U : State, va_P (X.1, X.2.1) sw_cl (sw_ws cn_w0 X (fun _ _ => 0, fun _ _ => 0)) U.heap := fun U i q h => absurd h (by show ¬ ([] : va_W)[i]? = some q; simp)
  have hp : PreS s H (sw_pc cn_w0 X [.int (zI a), .int (zI b)] (fun _ _ => 0, fun _ _ => 0)) [.int (zI a), .int (zI b)] := ⟨sw_blind, fun U hU hW => ⟨rfl, hP0 U, sw_K.warm hW (cn_K.sw hK), fun a b ha => absurd ha (Nat.not_lt_zero a)⟩⟩
  have hrun := va_runS (e := e) (below := below) (meth := meth) (locs := locs) (cells := k) (slots := n) (H := H) (R := cn_rm (d + 1) mc ms) (g := F0 m pc ls (.int (zI b) :: .int (zI a) :: st)) (As := [.int (zI a), .int (zI b)]) (rest := st) ⟨B.exec, B.bytes, hml, hown, hts⟩ C (va_cwS 2 hts hG rfl rfl rfl g7 ⟨Nat.le_refl _, by show 8 + (mJ9_max_7cf53.2.2.1 + 11) + d * 40 ≤ (d + 1) * 40; omega⟩) hp rfl rfl hl.1 rfl (lv_room hw) hd ⟨hkc, hkn⟩
  refine va_calli hrun hS (fun z _ h => absurd h cn_no) (fun z h => absurd h cn_no) (fun r u t H1 locs1 ht hvm hr hB hz1 hk1 hS1 => ?_)
  obtain ⟨-, rfl⟩ := hr
  exact kk p e s m args below meth c s₁ B hml hK hz H1 locs1 (fun i q h => (hP i q h).kept (hk1 q.1 (hP i q h).lt cn_no)) hD hS1 ls hl
theorem cn_fill (n' : Nat) {idx q z : Nat} {x : Int32} {f : Nat → Int32} (hz31 : z < 2147483648) (g : sw_ms y.1.cls idx mJ7_fill_53178 2) (hd : decode y.2.1 pc = .ok (.invokestatic idx, 3)) (hn : pc + 3 = n') (hw : (st.map fun v => v.category).sum ≤ 8) (hkc : k ≤ mc) (hkn : n ≤ ms)
    (kk : cn_wp X l (d + 1) y mc ms sz w0 Qc n' lc st (ws ++ [(q, .inl (X.2.2.1 0, z, .inl fun j => if j < z then x else f j))]) k n) : cn_wp X l (d + 1) y mc ms sz w0 Qc pc lc (.int x :: .ref q :: st) (ws ++ [(q, .inl (X.2.2.1 0, z, .inl f))]) k n := by
  subst hn
  intro p e s m args below meth c s₁ B hml hK hz H locs hP hD hS ls hl
  obtain ⟨⟨g2, g3, g5, g6⟩, g7, g8⟩ := g
  have hts := atoms_spec (ws := sw_mw y) B.pre
  have hown : s.vm.findClass y.1.cls = some m.cls := findClass_of_methodNamed B.named
  have hG : GoodIn (sw_mw y) (va_wsS y.1.cls idx mJ7_fill_53178.1 (sw_mw mJ7_fill_53178)) := by
    intro u hu
    rcases List.mem_append.mp hu with hu | hu
    · simp only [List.mem_cons, List.not_mem_nil, or_false] at hu
      rcases hu with rfl | rfl | rfl
      · exact sw_good1 g2
      · exact sw_good1 g3
      · exact sw_good1 g5
    · exact sw_good g6 u hu
  have hsz : sz ≤ H.size := by rw [← hz]; exact hS.1
  have C := c_fillI (w := cn_w1 z) (X := (X.1, X.2.1, X.2.2.1, fun _ => q)) (l := l) (d := d) (h := (fun _ => f, fun _ _ => 0)) (a := 0) (n := z) ⟨Nat.one_pos, rfl⟩ hz31 x
  have lastq : (ws ++ [(q, (.inl (X.2.2.1 0, z, .inl f) : va_E))])[ws.length]? = some (q, .inl (X.2.2.1 0, z, .inl f)) := by rw [List.getElem?_append_right (Nat.le_refl _), Nat.sub_self]; rfl
  have one : ∀ {x : va_E} {i : Nat} {r : Nat × va_E}, [(q, x)][i]? = some r → i = 0 ∧ r = (q, x) := fun {x i r} h => by
    have hi : i = 0 := by
      have := (List.getElem?_eq_some_iff.mp h).1
      simpa using this
    subst hi
    cases h
    exact ⟨rfl, rfl⟩
  have hP0 : va_P (X.1, X.2.1) sw_cl (sw_ws (cn_w1 z) (X.1, X.2.1, X.2.2.1, fun _ => q) (fun _ => f, fun _ _ => 0)) H := fun i r h => by
    obtain ⟨-, rfl⟩ := one (x := .inl (X.2.2.1 0, z, .inl f)) h
    exact hP _ _ lastq
  have hp : PreS s H (sw_pc (cn_w1 z) (X.1, X.2.1, X.2.2.1, fun _ => q) [.ref 0, .int x] (fun _ => f, fun _ _ => 0)) [.ref q, .int x] := ⟨sw_blind, fun U hU hW => ⟨rfl, by rw [hU]; exact hP0, sw_K.warm hW (cn_K.sw hK), fun a b ha hb _ => (by
    have ha : a < 1 := ha
    have hb : b < 1 := hb
    omega)⟩⟩
  have hrun := va_runS (e := e) (below := below) (meth := meth) (locs := locs) (cells := k) (slots := n) (H := H) (R := cn_rm (d + 1) mc ms) (g := F0 m pc ls (.int x :: .ref q :: st)) (As := [.ref q, .int x]) (rest := st) ⟨B.exec, B.bytes, hml, hown, hts⟩ C (va_cwS 2 hts hG rfl rfl rfl g7 ⟨Nat.le_refl _, by show 8 + (mJ7_fill_53178.2.2.1 + 11) + d * 40 ≤ (d + 1) * 40; omega⟩) hp rfl rfl hl.1 rfl (lv_room hw) hd ⟨hkc, hkn⟩
  have hA9 : ∀ z9, sw_A (cn_w1 z) (X.1, X.2.1, X.2.2.1, fun _ => q) z9 → z9 = q := fun z9 ⟨a, _, h⟩ => h
  have hAq : va_A w0 sz q := hD.2 _ _ lastq
  refine va_callv hrun hS (fun z9 _ h => by rw [hA9 z9 h]; exact hAq) (fun z9 h => by rw [hA9 z9 h]; exact hAq) (fun u t H1 locs1 ht hvm hr hB hz1 hk1 hS1 => ?_)
  obtain ⟨hP1, -, -⟩ := hB
  rw [ht] at hP1
  subst hr
  have at1 : ∀ (i : Nat) (r : Nat × va_E), ws[i]? = some r → ∀ x : va_E, (ws ++ [(q, x)])[i]? = some r := fun i r h x => by
    rw [List.getElem?_append_left ((List.getElem?_eq_some_iff.mp h).1)]; exact h
  have P2 : va_P (X.1, X.2.1) sw_cl (ws ++ [(q, .inl (X.2.2.1 0, z, .inl fun j => if j < z then x else f j))]) H1 := by
    refine va_P.app (fun i r h => ?_) (fun i r h => ?_)
    · have h9 := at1 i r h (.inl (X.2.2.1 0, z, .inl f))
      refine (hP i r h9).kept (hk1 r.1 (hP i r h9).lt (fun h8 => ?_))
      have := hD.1 i ws.length r _ h9 lastq (hA9 _ h8)
      have := (List.getElem?_eq_some_iff.mp h).1
      omega
    · obtain ⟨-, rfl⟩ := one h
      exact hP1 0 _ rfl
  have D2 : va_D (va_A w0 sz) (ws ++ [(q, .inl (X.2.2.1 0, z, .inl fun j => if j < z then x else f j))]) := by
    have hs : (ws ++ [(q, (.inl (X.2.2.1 0, z, .inl fun j => if j < z then x else f j) : va_E))]) = (ws ++ [(q, (.inl (X.2.2.1 0, z, .inl f) : va_E))]).set ws.length (q, (.inl (X.2.2.1 0, z, .inl fun j => if j < z then x else f j) : va_E)) := by
      rw [List.set_append_right _ _ (Nat.le_refl _), Nat.sub_self]; rfl
    rw [hs]
    exact hD.set lastq
  exact kk p e s m args below meth c s₁ B hml hK hz H1 locs1 P2 D2 hS1 ls hl
end sw_cons3
