/-! THE RULES OF CALLS -/
section sw_calls
variable {w : sw_W} {X : sw_X} {l : Launch} {d : Nat} {y y2 : sw_M} {Qc : sw_Q} {pc : Nat} {lc : List (Nat × Value)} {st stk As : List Value} {h : sw_H}
theorem sw_blind {args : List Value} : FrameBlind (sw_pc w X args h) := by
  intro a U g mk q
  obtain ⟨q0, qP, qK, qi⟩ := q
  exact ⟨q0, qP, sw_K.call qK, qi⟩
theorem sw_words (hw : (st.map fun v => v.category).sum ≤ 8) {m : MethodId} {ls : Array Slot} {rest : List Value} : 2 * (F0 m pc ls rest).monitorRoom + ((st.map (sw_cv X.2.2.2)).map fun v => v.category).sum ≤ 8 := by
  refine lv_room ?_
  rw [List.map_map]
  have e : (Value.category ∘ sw_cv X.2.2.2) = Value.category := funext fun v => sw_cv_cat _ v
  show (List.map (Value.category ∘ sw_cv X.2.2.2) st).sum ≤ 8
  rw [e]
  exact hw
theorem sw_runV {p : Program} {e : Env} {s : State} {m : MethodId} {args : Array Value} {below : List Frame} {meth : Method} {c : Code} {s₁ : State} {H : Heap} {locs : List Loc} {ls : Array Slot} {idx ci np a : Nat} {Q2 : sw_Q}
    (B : BodyLoose p l y.1 (headSpec (sw_mw y) (sw_rm (d + 1))) y.2.1 y.2.2.1 y.2.2.2 e s m args below meth c s₁) (hml : c.maxLocals = y.2.2.1) (hK : sw_K X s) (hi : sw_inj w X) (hP : va_P (X.1, X.2.1) sw_cl (sw_ws w X h) H) (hl : sw_L X ls y.2.2.1 lc)
    (hd : decode y.2.1 pc = .ok (.invokevirtual idx, 3)) (g : sw_mv y.1.cls idx y2 ci np) (C : sw_ct w X l d y2 (.ref a :: As) h Q2) (ho : sw_o w a ci) (hA : As.length = np) (hst : stk = As.reverse ++ .ref a :: st) (hw : (st.map fun v => v.category).sum ≤ 8) :
    va_Run p l e (sw_rm (d + 1)) s m args below meth c H locs 0 0 0 0 (F0 m pc ls (stk.map (sw_cv X.2.2.2))) (st.map (sw_cv X.2.2.2)) (Q2 (Value.ref (X.2.2.2 a) :: As.map (sw_cv X.2.2.2)).toArray) (sw_A w X) := by
  obtain ⟨T, N, g1, ⟨g2, g3, g4, g5, g6⟩, g7, g8⟩ := g
  have hts := atoms_spec (ws := sw_mw y) B.pre
  have hown : s.vm.findClass y.1.cls = some m.cls := findClass_of_methodNamed B.named
  have hat := sw_at (w := w) (X := X) (h := h) ho.1
  rw [sw_eO ho] at hat
  have hG : GoodIn (sw_mw y) (wsV y.1.cls idx y2.1.cls y2.1 (sw_mw y2)) := by
    intro u hu
    rcases List.mem_append.mp hu with hu | hu
    · simp only [List.mem_cons, List.not_mem_nil, or_false] at hu
      rcases hu with rfl | rfl | rfl | rfl
      · exact sw_good1 g2
      · exact sw_good1 g3
      · exact sw_good1 g4
      · exact sw_good1 g5
    · exact sw_good g6 u hu
  refine va_runV (As := As.map (sw_cv X.2.2.2)) (rest := st.map (sw_cv X.2.2.2)) ⟨B.exec, B.bytes, hml, hown, hts⟩ C (cwV np hts hG rfl rfl rfl ⟨rfl, g7⟩ ⟨Nat.le_refl _, ?_⟩) ⟨sw_blind, ?_, fun U hU hW => ⟨rfl, ?_, sw_K.warm hW hK, hi⟩⟩ rfl (by rw [List.length_map]; exact hA) hl.1 ?_ (sw_words hw) hd ⟨Nat.le_refl _, Nat.le_refl _⟩
  · show 8 + (y2.2.2.1 + 11) + d * 40 ≤ (d + 1) * 40
    omega
  · obtain ⟨cell, q1, q2, q3⟩ := va_recv hK.1 hP g1 hat
    exact ⟨cell, q1, q2, q3⟩
  · rw [hU]; exact hP
  · show stk.map (sw_cv X.2.2.2) = _
    rw [hst, List.map_append, List.map_reverse]; rfl
theorem sw_runS {p : Program} {e : Env} {s : State} {m : MethodId} {args : Array Value} {below : List Frame} {meth : Method} {c : Code} {s₁ : State} {H : Heap} {locs : List Loc} {ls : Array Slot} {idx np : Nat} {Q2 : sw_Q}
    (B : BodyLoose p l y.1 (headSpec (sw_mw y) (sw_rm (d + 1))) y.2.1 y.2.2.1 y.2.2.2 e s m args below meth c s₁) (hml : c.maxLocals = y.2.2.1) (hK : sw_K X s) (hi : sw_inj w X) (hP : va_P (X.1, X.2.1) sw_cl (sw_ws w X h) H) (hl : sw_L X ls y.2.2.1 lc)
    (hd : decode y.2.1 pc = .ok (.invokestatic idx, 3)) (g : sw_ms y.1.cls idx y2 np) (C : sw_ct w X l d y2 As h Q2) (hA : As.length = np) (hst : stk = As.reverse ++ st) (hw : (st.map fun v => v.category).sum ≤ 8) :
    va_Run p l e (sw_rm (d + 1)) s m args below meth c H locs 0 0 0 0 (F0 m pc ls (stk.map (sw_cv X.2.2.2))) (st.map (sw_cv X.2.2.2)) (Q2 (As.map (sw_cv X.2.2.2)).toArray) (sw_A w X) := by
  obtain ⟨⟨g2, g3, g5, g6⟩, g7, g8⟩ := g
  have hts := atoms_spec (ws := sw_mw y) B.pre
  have hown : s.vm.findClass y.1.cls = some m.cls := findClass_of_methodNamed B.named
  have hG : GoodIn (sw_mw y) (va_wsS y.1.cls idx y2.1 (sw_mw y2)) := by
    intro u hu
    rcases List.mem_append.mp hu with hu | hu
    · simp only [List.mem_cons, List.not_mem_nil, or_false] at hu
      rcases hu with rfl | rfl | rfl
      · exact sw_good1 g2
      · exact sw_good1 g3
      · exact sw_good1 g5
    · exact sw_good g6 u hu
  refine va_runS (As := As.map (sw_cv X.2.2.2)) (rest := st.map (sw_cv X.2.2.2)) ⟨B.exec, B.bytes, hml, hown, hts⟩ C (va_cwS np hts hG rfl rfl rfl g7 ⟨Nat.le_refl _, ?_⟩) ⟨sw_blind, fun U hU hW => ⟨rfl, ?_, sw_K.warm hW hK, hi⟩⟩ rfl (by rw [List.length_map]; exact hA) hl.1 ?_ (sw_words hw) hd ⟨Nat.le_refl _, Nat.le_refl _⟩
  · show 8 + (y2.2.2.1 + 11) + d * 40 ≤ (d + 1) * 40
    omega
  · rw [hU]; exact hP
  · show stk.map (sw_cv X.2.2.2) = _
    rw [hst, List.map_append, List.map_reverse]
theorem sw_runSN {p : Program} {e : Env} {s : State} {m : MethodId} {args : Array Value} {below : List Frame} {meth : Method} {c : Code} {s₁ : State} {H : Heap} {locs : List Loc} {ls : Array Slot} {idx np : Nat} {Q2 : sw_Q}
    (B : BodyLoose p l y.1 (headSpec (sw_mw y) (sw_rm (d + 1))) y.2.1 y.2.2.1 y.2.2.2 e s m args below meth c s₁) (hml : c.maxLocals = y.2.2.1) (hK : sw_K X s) (hi : sw_inj w X) (hP : va_P (X.1, X.2.1) sw_cl (sw_ws w X h) H) (hl : sw_L X ls y.2.2.1 lc)
    (hd : decode y.2.1 pc = .ok (.invokestatic idx, 3)) (g : sw_msN y.1.cls idx y2 np) (C : sw_ct w X l d y2 As h Q2) (hA : As.length = np) (hst : stk = As.reverse ++ st) (hw : (st.map fun v => v.category).sum ≤ 8) :
    va_Run p l e (sw_rm (d + 1)) s m args below meth c H locs 0 0 0 0 (F0 m pc ls (stk.map (sw_cv X.2.2.2))) (st.map (sw_cv X.2.2.2)) (Q2 (As.map (sw_cv X.2.2.2)).toArray) (sw_A w X) := by
  obtain ⟨⟨⟨host, g2⟩, g3, g5, g6⟩, g7, g8⟩ := g
  have hts := atoms_spec (ws := sw_mw y) B.pre
  have hown : s.vm.findClass y.1.cls = some m.cls := findClass_of_methodNamed B.named
  have hG : GoodIn (sw_mw y) (sw_mw y2) := sw_good g6
  have hR : (sw_rm d).frames + 1 ≤ (sw_rm (d + 1)).frames ∧ 8 + (y2.2.2.1 + 11) + (sw_rm d).locals ≤ (sw_rm (d + 1)).locals := ⟨Nat.le_refl _, by show 8 + (y2.2.2.1 + 11) + d * 40 ≤ (d + 1) * 40; omega⟩
  refine va_runSN (As := As.map (sw_cv X.2.2.2)) (rest := st.map (sw_cv X.2.2.2)) ⟨B.exec, B.bytes, hml, hown, hts⟩ C ⟨va_cnB (bytes := y2.2.1) (maxL := y2.2.2.1) (ret := y2.2.2.2) np hts hG rfl rfl rfl (hK.2 _ g2) (hts _ (sw_mem g5)) g7 hR, hts _ (sw_mem g3), trivial⟩ ⟨sw_blind, fun U hU hW => ⟨rfl, ?_, sw_K.warm hW hK, hi⟩⟩ rfl (by rw [List.length_map]; exact hA) hl.1 ?_ (sw_words hw) hd ⟨Nat.le_refl _, Nat.le_refl _⟩
  · rw [hU]; exact hP
  · show stk.map (sw_cv X.2.2.2) = _
    rw [hst, List.map_append, List.map_reverse]
theorem sw_invSNI (n : Nat) {idx np : Nat} {Q2 : Int32 → sw_H → Prop} (hd : decode y.2.1 pc = .ok (.invokestatic idx, 3)) (hn : pc + 3 = n) (g : sw_msN y.1.cls idx y2 np) (C : sw_ct w X l d y2 As h (sw_qI w X Q2)) (hA : As.length = np) (hst : stk = As.reverse ++ st) (hw : (st.map fun v => v.category).sum ≤ 8) (k : ∀ (r : Int32) (h2 : sw_H), Q2 r h2 → sw_wp w X l (d + 1) y Qc n lc (.int r :: st) h2) : sw_wp w X l (d + 1) y Qc pc lc stk h := by
  subst hn
  intro p e s m args below meth c s₁ B hml hK hi H locs hP hS ls hl
  refine va_calli (sw_runSN B hml hK hi hP hl hd g C hA hst hw) hS (fun q _ h9 => h9) (fun q h9 => h9) (fun r u t H1 locs1 ht hvm hq hB hz hk hS1 => ?_)
  obtain ⟨b1, b2, b3⟩ := hB
  rw [ht] at b1
  exact k r u hq p e s m args below meth c s₁ B hml hK hi H1 locs1 b1 hS1 ls hl
theorem sw_invVI (n : Nat) {idx ci np a : Nat} {Q2 : Int32 → sw_H → Prop} (hd : decode y.2.1 pc = .ok (.invokevirtual idx, 3)) (hn : pc + 3 = n) (g : sw_mv y.1.cls idx y2 ci np) (C : sw_ct w X l d y2 (.ref a :: As) h (sw_qI w X Q2)) (ho : sw_o w a ci) (hA : As.length = np) (hst : stk = As.reverse ++ .ref a :: st) (hw : (st.map fun v => v.category).sum ≤ 8) (k : ∀ (r : Int32) (h2 : sw_H), Q2 r h2 → sw_wp w X l (d + 1) y Qc n lc (.int r :: st) h2) : sw_wp w X l (d + 1) y Qc pc lc stk h := by
  subst hn
  intro p e s m args below meth c s₁ B hml hK hi H locs hP hS ls hl
  refine va_calli (sw_runV B hml hK hi hP hl hd g C ho hA hst hw) hS (fun q _ h9 => h9) (fun q h9 => h9) (fun r u t H1 locs1 ht hvm hq hB hz hk hS1 => ?_)
  obtain ⟨b1, b2, b3⟩ := hB
  rw [ht] at b1
  exact k r u hq p e s m args below meth c s₁ B hml hK hi H1 locs1 b1 hS1 ls hl
theorem sw_invVL (n : Nat) {idx ci np a : Nat} {Q2 : Int64 → sw_H → Prop} (hd : decode y.2.1 pc = .ok (.invokevirtual idx, 3)) (hn : pc + 3 = n) (g : sw_mv y.1.cls idx y2 ci np) (C : sw_ct w X l d y2 (.ref a :: As) h (sw_qL w X Q2)) (ho : sw_o w a ci) (hA : As.length = np) (hst : stk = As.reverse ++ .ref a :: st) (hw : (st.map fun v => v.category).sum ≤ 8) (k : ∀ (r : Int64) (h2 : sw_H), Q2 r h2 → sw_wp w X l (d + 1) y Qc n lc (.long r :: st) h2) : sw_wp w X l (d + 1) y Qc pc lc stk h := by
  subst hn
  intro p e s m args below meth c s₁ B hml hK hi H locs hP hS ls hl
  refine va_calll (sw_runV B hml hK hi hP hl hd g C ho hA hst hw) hS (fun q _ h9 => h9) (fun q h9 => h9) (fun r u t H1 locs1 ht hvm hq hB hz hk hS1 => ?_)
  obtain ⟨b1, b2, b3⟩ := hB
  rw [ht] at b1
  exact k r u hq p e s m args below meth c s₁ B hml hK hi H1 locs1 b1 hS1 ls hl
theorem sw_invVV (n : Nat) {idx ci np a : Nat} {Q2 : sw_H → Prop} (hd : decode y.2.1 pc = .ok (.invokevirtual idx, 3)) (hn : pc + 3 = n) (g : sw_mv y.1.cls idx y2 ci np) (C : sw_ct w X l d y2 (.ref a :: As) h (sw_qV w X Q2)) (ho : sw_o w a ci) (hA : As.length = np) (hst : stk = As.reverse ++ .ref a :: st) (hw : (st.map fun v => v.category).sum ≤ 8) (k : ∀ (h2 : sw_H), Q2 h2 → sw_wp w X l (d + 1) y Qc n lc st h2) : sw_wp w X l (d + 1) y Qc pc lc stk h := by
  subst hn
  intro p e s m args below meth c s₁ B hml hK hi H locs hP hS ls hl
  refine va_callv (sw_runV B hml hK hi hP hl hd g C ho hA hst hw) hS (fun q _ h9 => h9) (fun q h9 => h9) (fun u t H1 locs1 ht hvm hq hB hz hk hS1 => ?_)
  obtain ⟨b1, b2, b3⟩ := hB
  rw [ht] at b1
  exact k u hq p e s m args below meth c s₁ B hml hK hi H1 locs1 b1 hS1 ls hl
theorem sw_invVR (n : Nat) {idx ci np a : Nat} {Q2 : Nat → sw_H → Prop} (hd : decode y.2.1 pc = .ok (.invokevirtual idx, 3)) (hn : pc + 3 = n) (g : sw_mv y.1.cls idx y2 ci np) (C : sw_ct w X l d y2 (.ref a :: As) h (sw_qR w X Q2)) (ho : sw_o w a ci) (hA : As.length = np) (hst : stk = As.reverse ++ .ref a :: st) (hw : (st.map fun v => v.category).sum ≤ 8) (k : ∀ (r : Nat) (h2 : sw_H), Q2 r h2 → sw_wp w X l (d + 1) y Qc n lc (.ref r :: st) h2) : sw_wp w X l (d + 1) y Qc pc lc stk h := by
  subst hn
  intro p e s m args below meth c s₁ B hml hK hi H locs hP hS ls hl
  refine va_callr (sw_runV B hml hK hi hP hl hd g C ho hA hst hw) hS (fun q _ h9 => h9) (fun q h9 => h9) (fun u ra t H1 locs1 ht hvm hq hB hz hk hS1 => ?_)
  obtain ⟨b0, b1, b2, b3⟩ := hB
  rw [ht] at b1
  subst b0
  exact k u.1 u.2 hq p e s m args below meth c s₁ B hml hK hi H1 locs1 b1 hS1 ls hl
theorem sw_invSI (n : Nat) {idx np : Nat} {Q2 : Int32 → sw_H → Prop} (hd : decode y.2.1 pc = .ok (.invokestatic idx, 3)) (hn : pc + 3 = n) (g : sw_ms y.1.cls idx y2 np) (C : sw_ct w X l d y2 As h (sw_qI w X Q2)) (hA : As.length = np) (hst : stk = As.reverse ++ st) (hw : (st.map fun v => v.category).sum ≤ 8) (k : ∀ (r : Int32) (h2 : sw_H), Q2 r h2 → sw_wp w X l (d + 1) y Qc n lc (.int r :: st) h2) : sw_wp w X l (d + 1) y Qc pc lc stk h := by
  subst hn
  intro p e s m args below meth c s₁ B hml hK hi H locs hP hS ls hl
  refine va_calli (sw_runS B hml hK hi hP hl hd g C hA hst hw) hS (fun q _ h9 => h9) (fun q h9 => h9) (fun r u t H1 locs1 ht hvm hq hB hz hk hS1 => ?_)
  obtain ⟨b1, b2, b3⟩ := hB
  rw [ht] at b1
  exact k r u hq p e s m args below meth c s₁ B hml hK hi H1 locs1 b1 hS1 ls hl
theorem sw_invSL (n : Nat) {idx np : Nat} {Q2 : Int64 → sw_H → Prop} (hd : decode y.2.1 pc = .ok (.invokestatic idx, 3)) (hn : pc + 3 = n) (g : sw_ms y.1.cls idx y2 np) (C : sw_ct w X l d y2 As h (sw_qL w X Q2)) (hA : As.length = np) (hst : stk = As.reverse ++ st) (hw : (st.map fun v => v.category).sum ≤ 8) (k : ∀ (r : Int64) (h2 : sw_H), Q2 r h2 → sw_wp w X l (d + 1) y Qc n lc (.long r :: st) h2) : sw_wp w X l (d + 1) y Qc pc lc stk h := by
  subst hn
  intro p e s m args below meth c s₁ B hml hK hi H locs hP hS ls hl
  refine va_calll (sw_runS B hml hK hi hP hl hd g C hA hst hw) hS (fun q _ h9 => h9) (fun q h9 => h9) (fun r u t H1 locs1 ht hvm hq hB hz hk hS1 => ?_)
  obtain ⟨b1, b2, b3⟩ := hB
  rw [ht] at b1
  exact k r u hq p e s m args below meth c s₁ B hml hK hi H1 locs1 b1 hS1 ls hl
theorem sw_invSV (n : Nat) {idx np : Nat} {Q2 : sw_H → Prop} (hd : decode y.2.1 pc = .ok (.invokestatic idx, 3)) (hn : pc + 3 = n) (g : sw_ms y.1.cls idx y2 np) (C : sw_ct w X l d y2 As h (sw_qV w X Q2)) (hA : As.length = np) (hst : stk = As.reverse ++ st) (hw : (st.map fun v => v.category).sum ≤ 8) (k : ∀ (h2 : sw_H), Q2 h2 → sw_wp w X l (d + 1) y Qc n lc st h2) : sw_wp w X l (d + 1) y Qc pc lc stk h := by
  subst hn
  intro p e s m args below meth c s₁ B hml hK hi H locs hP hS ls hl
  refine va_callv (sw_runS B hml hK hi hP hl hd g C hA hst hw) hS (fun q _ h9 => h9) (fun q h9 => h9) (fun u t H1 locs1 ht hvm hq hB hz hk hS1 => ?_)
  obtain ⟨b1, b2, b3⟩ := hB
  rw [ht] at b1
  exact k u hq p e s m args below meth c s₁ B hml hK hi H1 locs1 b1 hS1 ls hl
theorem sw_invSR (n : Nat) {idx np : Nat} {Q2 : Nat → sw_H → Prop} (hd : decode y.2.1 pc = .ok (.invokestatic idx, 3)) (hn : pc + 3 = n) (g : sw_ms y.1.cls idx y2 np) (C : sw_ct w X l d y2 As h (sw_qR w X Q2)) (hA : As.length = np) (hst : stk = As.reverse ++ st) (hw : (st.map fun v => v.category).sum ≤ 8) (k : ∀ (r : Nat) (h2 : sw_H), Q2 r h2 → sw_wp w X l (d + 1) y Qc n lc (.ref r :: st) h2) : sw_wp w X l (d + 1) y Qc pc lc stk h := by
  subst hn
  intro p e s m args below meth c s₁ B hml hK hi H locs hP hS ls hl
  refine va_callr (sw_runS B hml hK hi hP hl hd g C hA hst hw) hS (fun q _ h9 => h9) (fun q h9 => h9) (fun u ra t H1 locs1 ht hvm hq hB hz hk hS1 => ?_)
  obtain ⟨b0, b1, b2, b3⟩ := hB
  rw [ht] at b1
  subst b0
  exact k u.1 u.2 hq p e s m args below meth c s₁ B hml hK hi H1 locs1 b1 hS1 ls hl
/-- constants of the pool -/
theorem sw_ldc (n : Nat) {idx : Nat} {v : Int32} (hd : decode y.2.1 pc = .ok (.ldc idx, 2)) (hn : pc + 2 = n) (hc : Cond.constant y.1.cls idx v ∈ sw_big) (k : sw_wp w X l d y Qc n lc (.int v :: st) h) : sw_wp w X l d y Qc pc lc st h := by
  subst hn
  intro p e s m args below meth c s₁ B hml hK hi H locs hP hS ls hl
  have hts := atoms_spec (ws := sw_mw y) B.pre
  exact lv_ldc B.exec B.bytes (findClass_of_methodNamed B.named) (hts _ (sw_mem hc)) hd (k p e s m args below meth c s₁ B hml hK hi H locs hP hS ls hl)
theorem sw_ldcw (n : Nat) {idx : Nat} {v : Int32} (hd : decode y.2.1 pc = .ok (.ldc_w idx, 3)) (hn : pc + 3 = n) (hc : Cond.constant y.1.cls idx v ∈ sw_big) (k : sw_wp w X l d y Qc n lc (.int v :: st) h) : sw_wp w X l d y Qc pc lc st h := by
  subst hn
  intro p e s m args below meth c s₁ B hml hK hi H locs hP hS ls hl
  have hts := atoms_spec (ws := sw_mw y) B.pre
  exact lv_ldcw B.exec B.bytes (findClass_of_methodNamed B.named) (hts _ (sw_mem hc)) hd (k p e s m args below meth c s₁ B hml hK hi H locs hP hS ls hl)
theorem sw_ldc2 (n : Nat) {idx : Nat} {v : Int64} (hd : decode y.2.1 pc = .ok (.ldc2_w idx, 3)) (hn : pc + 3 = n) (hc : Cond.constantLong y.1.cls idx v ∈ sw_big) (k : sw_wp w X l d y Qc n lc (.long v :: st) h) : sw_wp w X l d y Qc pc lc st h := by
  subst hn
  intro p e s m args below meth c s₁ B hml hK hi H locs hP hS ls hl
  have hts := atoms_spec (ws := sw_mw y) B.pre
  exact lv_ldc2 B.exec B.bytes (findClass_of_methodNamed B.named) (hts _ (sw_mem hc)) hd (k p e s m args below meth c s₁ B hml hK hi H locs hP hS ls hl)
/-- System.arraycopy over ints, over longs -/
def sw_cpI (h : sw_H) (a b sp dp z : Nat) : sw_H := (va_up h.1 b (va_cpy (h.1 a) (h.1 b) sp dp z), h.2)
def sw_cpL (h : sw_H) (a b sp dp z : Nat) : sw_H := (h.1, va_up h.2 b (va_cpy (h.2 a) (h.2 b) sp dp z))
def sw_ac (own : String) (idx : Nat) : Prop := Cond.methodLink own idx arraycopyName ∈ sw_big ∧ Cond.native arraycopyName ∈ sw_big ∧ Cond.static arraycopyName ∈ sw_big ∧ Cond.initialized "java/lang/System" ∈ sw_big
theorem sw_acI (n : Nat) {idx a b za zb : Nat} {sp dp z : Int32} (hd : decode y.2.1 pc = .ok (.invokestatic idx, 3)) (hn : pc + 3 = n) (g : sw_ac y.1.cls idx) (ha : sw_r w a 0 za) (hb : sw_r w b 0 zb) (h1 : ¬ sp < 0) (h2 : ¬ dp < 0) (h3 : ¬ z < 0) (h4 : sp.toNatClampNeg + z.toNatClampNeg ≤ za) (h5 : dp.toNatClampNeg + z.toNatClampNeg ≤ zb) (hw : (st.map fun v => v.category).sum ≤ 8)
    (kk : sw_wp w X l (d + 1) y Qc n lc st (sw_cpI h a b sp.toNatClampNeg dp.toNatClampNeg z.toNatClampNeg)) : sw_wp w X l (d + 1) y Qc pc lc (.int z :: .int dp :: .ref b :: .int sp :: .ref a :: st) h := by
  subst hn
  intro p e s m args below meth c s₁ B hml hK hi H locs hP hS ls hl
  have hts := atoms_spec (ws := sw_mw y) B.pre
  have hata := sw_at (w := w) (X := X) (h := h) ha.1
  rw [sw_eR ha] at hata
  have hatb := sw_at (w := w) (X := X) (h := h) hb.1
  rw [sw_eR hb] at hatb
  refine va_copyi B.exec B.bytes (by rw [hml]; exact hl.1.symm) (findClass_of_methodNamed B.named) (hts _ (sw_mem g.1)) (hts _ (sw_mem g.2.1)) (hts _ (sw_mem g.2.2.1)) (hts _ (sw_mem g.2.2.2)) hK.1 hP (sw_D hi) hS a b 0 0 hata hatb rfl rfl rfl h1 h2 h3 h4 h5 (fun _ _ => rfl) ?_ ?_ hd (fun H1 locs1 hP1 hD1 hS1 => ?_)
  · show 1 ≤ d + 1
    omega
  · have := sw_words (pc := 0) (X := X) (st := st) hw (m := m) (ls := ls) (rest := [])
    have e9 : nativeFrameWords "java/lang/System" "arraycopy" 5 + 11 ≤ 32 := by decide
    show _ ≤ (d + 1) * 40
    omega
  · rw [sw_set (w := w) (X := X) (a := b) (h := h) (h' := sw_cpI h a b sp.toNatClampNeg dp.toNatClampNeg z.toNatClampNeg) (by rw [sw_eR hb]; simp only [sw_ar, sw_cpI, va_up, if_true]) (fun b2 hb2 => sw_e_ne (by simp [sw_cpI, va_up, hb2]) rfl)] at hP1
    exact kk p e s m args below meth c s₁ B hml hK hi H1 locs1 hP1 hS1 ls hl
theorem sw_acL (n : Nat) {idx a b za zb : Nat} {sp dp z : Int32} (hd : decode y.2.1 pc = .ok (.invokestatic idx, 3)) (hn : pc + 3 = n) (g : sw_ac y.1.cls idx) (ha : sw_r w a 1 za) (hb : sw_r w b 1 zb) (h1 : ¬ sp < 0) (h2 : ¬ dp < 0) (h3 : ¬ z < 0) (h4 : sp.toNatClampNeg + z.toNatClampNeg ≤ za) (h5 : dp.toNatClampNeg + z.toNatClampNeg ≤ zb) (hw : (st.map fun v => v.category).sum ≤ 8)
    (kk : sw_wp w X l (d + 1) y Qc n lc st (sw_cpL h a b sp.toNatClampNeg dp.toNatClampNeg z.toNatClampNeg)) : sw_wp w X l (d + 1) y Qc pc lc (.int z :: .int dp :: .ref b :: .int sp :: .ref a :: st) h := by
  subst hn
  intro p e s m args below meth c s₁ B hml hK hi H locs hP hS ls hl
  have hts := atoms_spec (ws := sw_mw y) B.pre
  have hata := sw_at (w := w) (X := X) (h := h) ha.1
  rw [sw_eR ha] at hata
  have hatb := sw_at (w := w) (X := X) (h := h) hb.1
  rw [sw_eR hb] at hatb
  refine va_copyl B.exec B.bytes (by rw [hml]; exact hl.1.symm) (findClass_of_methodNamed B.named) (hts _ (sw_mem g.1)) (hts _ (sw_mem g.2.1)) (hts _ (sw_mem g.2.2.1)) (hts _ (sw_mem g.2.2.2)) hK.1 hP (sw_D hi) hS a b 1 1 hata hatb rfl rfl rfl h1 h2 h3 h4 h5 (fun _ _ => rfl) ?_ ?_ hd (fun H1 locs1 hP1 hD1 hS1 => ?_)
  · show 1 ≤ d + 1
    omega
  · have := sw_words (pc := 0) (X := X) (st := st) hw (m := m) (ls := ls) (rest := [])
    have e9 : nativeFrameWords "java/lang/System" "arraycopy" 5 + 11 ≤ 32 := by decide
    show _ ≤ (d + 1) * 40
    omega
  · rw [sw_set (w := w) (X := X) (a := b) (h := h) (h' := sw_cpL h a b sp.toNatClampNeg dp.toNatClampNeg z.toNatClampNeg) (by rw [sw_eR hb]; simp only [sw_ar, sw_cpL, va_up, if_true]) (fun b2 hb2 => sw_e_ne rfl (by simp [sw_cpL, va_up, hb2]))] at hP1
    exact kk p e s m args below meth c s₁ B hml hK hi H1 locs1 hP1 hS1 ls hl
end sw_calls
