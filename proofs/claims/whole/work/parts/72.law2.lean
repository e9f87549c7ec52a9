/-! THE LAW: two worlds side by side, one state; a rule a piece of a case -/
def σ0 : SgZ := (((0, fun _ => 0, fun _ => 0), (fun _ => 1, fun _ _ => 0), (0, fun _ => 0)), none, (0, fun _ => 0), (fun _ => -1, fun _ _ => 0))
theorem ok_0 : okS σ0 := by
  refine ⟨⟨⟨by decide, fun i hi => absurd hi (Nat.not_lt_zero i), fun i j _ hj => absurd hj (Nat.not_lt_zero j), by decide, fun i hi => absurd hi (Nat.not_lt_zero i)⟩, fun s _ => ⟨Or.inl rfl, fun i _ => ⟨(by show (-6 : Int) ≤ 0; decide), (by show (0 : Int) ≤ 6; decide), fun _ => rfl⟩⟩, by decide, fun i hi => absurd hi (Nat.not_lt_zero i), fun i j _ hj => absurd hj (Nat.not_lt_zero j)⟩, fun E hE => (by cases hE), ⟨by decide, fun i hi => absurd hi (Nat.not_lt_zero i)⟩, fun j _ => ⟨(by show (-1 : Int) ≤ -1; decide), (by show (-1 : Int) ≤ 20; decide)⟩⟩
theorem IA_0 : IA h0A σ0 := by
  refine ⟨⟨by decide, fun i hi => absurd hi (Nat.not_lt_zero i), fun s hs => ?_, by decide, fun i hi => absurd hi (Nat.not_lt_zero i)⟩, Or.inl ⟨rfl, by decide⟩, Or.inl (by decide), Or.inl (by decide), ⟨by decide, fun i hi => absurd hi (Nat.not_lt_zero i)⟩, fun j hj => ⟨?_, fun i hi => ?_⟩, fun s hs => ⟨0, ?_⟩, ⟨0, by decide⟩, ⟨0, by decide⟩⟩
  · refine ⟨?_, fun i hi => ?_⟩
    · rcases (show s = 0 ∨ s = 1 ∨ s = 2 ∨ s = 3 by omega) with rfl | rfl | rfl | rfl <;> decide
    · rcases (show s = 0 ∨ s = 1 ∨ s = 2 ∨ s = 3 by omega) with rfl | rfl | rfl | rfl <;> rfl
  · rcases (show j = 0 ∨ j = 1 ∨ j = 2 by omega) with rfl | rfl | rfl <;> decide
  · have hi : (i : Int) < -1 := hi
    omega
  · rcases (show s = 0 ∨ s = 1 ∨ s = 2 ∨ s = 3 by omega) with rfl | rfl | rfl | rfl <;> decide
theorem IM_0 : IM h0M σ0 := by
  refine ⟨⟨by decide, fun i hi => absurd hi (Nat.not_lt_zero i)⟩, fun s hs => ⟨?_, fun i hi => absurd hi (Nat.not_lt_zero i)⟩, ⟨by decide, fun i hi => absurd hi (Nat.not_lt_zero i)⟩, Or.inl ⟨rfl, by decide⟩, ⟨by decide, fun i hi => absurd hi (Nat.not_lt_zero i)⟩, fun j hj => ⟨?_, fun i hi => ?_⟩⟩
  · rcases (show s = 0 ∨ s = 1 ∨ s = 2 ∨ s = 3 by omega) with rfl | rfl | rfl | rfl <;> decide
  · rcases (show j = 0 ∨ j = 1 ∨ j = 2 by omega) with rfl | rfl | rfl <;> decide
  · have hi : (i : Int) < -1 := hi
    omega
/-- both worlds hold -/
def lw_in (X : sw_X) (τ : Nat → Nat) (hA hM : sw_H) (H : Heap) : Prop := va_P (X.1, X.2.1) sw_cl (sw_ws wA X hA) H ∧ va_P (X.1, X.2.1) sw_cl (sw_ws wM (xU X τ) hM) H
/-- what doesn't change: the tables, which cells -/
def lw_fix (X : sw_X) (τ : Nat → Nat) (s : State) : Prop := sw_K X s ∧ sw_inj wA X ∧ sw_inj wM (xU X τ) ∧ (∀ a, a < 76 → s.heap.size ≤ X.2.2.2 a) ∧ (∀ a, a < 24 → s.heap.size ≤ τ a) ∧ ∀ a a', a < 76 → a' < 24 → X.2.2.2 a ≠ τ a'
def lw_lc (b : Nat) (X : sw_X) (τ : Nat → Nat) (i : Nat) : List (Nat × Value) := [(0, .ref b), (1, .ref (X.2.2.2 0)), (2, .ref (τ 0)), (3, .int (zI i))]
def lw_wp (p : Program) (l : Launch) (e : Env) (s : State) (m : MethodId) (below : List Frame) (meth : Method) (c : Code) (b : Nat) (X : sw_X) (τ : Nat → Nat) (k n i pc : Nat) (st : List Value) (hA hM : sw_H) : Prop :=
  ∀ (H : Heap) (locs : List Loc), lw_in X τ hA hM H → va_S (fun q => s.heap.size ≤ q) s.heap H locs → ∀ ls : Array Slot, lv_has ls 4 (lw_lc b X τ i) → W p l e room_1 s m #[Value.ref b] below meth c H locs k n (lw_Z below #[Value.ref b] s) (F0 m pc ls st)
/-- the long of a script's two ints -/
def lw_v (xs : Nat → Int32) (i : Nat) : Int64 := (xs (i + 3)).toInt64 <<< ((32 : Int32).toInt64 &&& 63) ||| (xs (i + 4)).toInt64 &&& 4294967295
section sw_law1
variable {p : Program} {l : Launch} {e : Env} {s : State} {m : MethodId} {below : List Frame} {meth : Method} {c : Code} {b L : Nat} {xs : Nat → Int32} {X : sw_X} {τ : Nat → Nat} {k n i pc : Nat} {st : List Value} {hA hM : sw_H}
theorem lw_aloadX (C0 : lw_At p s m meth c b L xs) (n' : Nat) (hd : decode cL_law pc = .ok (.aload_n 1, 1)) (hn : pc + 1 = n') (kk : lw_wp p l e s m below meth c b X τ k n i n' (.ref (X.2.2.2 0) :: st) hA hM) : lw_wp p l e s m below meth c b X τ k n i pc st hA hM := by
  subst hn
  intro H locs hI hS ls hl
  exact lv_aload_n C0.1 C0.2.1 hd rfl (lv_at hl 1 rfl) (kk H locs hI hS ls hl)
theorem lw_aloadM (C0 : lw_At p s m meth c b L xs) (n' : Nat) (hd : decode cL_law pc = .ok (.aload_n 2, 1)) (hn : pc + 1 = n') (kk : lw_wp p l e s m below meth c b X τ k n i n' (.ref (τ 0) :: st) hA hM) : lw_wp p l e s m below meth c b X τ k n i pc st hA hM := by
  subst hn
  intro H locs hI hS ls hl
  exact lv_aload_n C0.1 C0.2.1 hd rfl (lv_at hl 2 rfl) (kk H locs hI hS ls hl)
theorem lw_arg (C0 : lw_At p s m meth c b L xs) (hL : L ≤ 2560) (hi : i + 5 ≤ L) (n' : Nat) {j : Nat} {zj : Int} (hj : i + j < L) (d0 : decode cL_law pc = .ok (.aload_n 0, 1)) (d1 : decode cL_law (pc + 1) = .ok (.iload_n 3, 1)) (d2 : decode cL_law (pc + 2) = .ok (.iconst zj, 1)) (hz : Int32.ofInt zj = zI j) (d3 : decode cL_law (pc + 3) = .ok (.iadd, 1)) (d4 : decode cL_law (pc + 4) = .ok (.iaload, 1)) (hn : pc + 5 = n')
    (kk : lw_wp p l e s m below meth c b X τ k n i n' (.int (xs (i + j)) :: st) hA hM) : lw_wp p l e s m below meth c b X τ k n i pc st hA hM := by
  subst hn
  intro H locs hI hS ls hl
  obtain ⟨hx, hb, hr, hml, hown, hts, hX, hbl, hlocks, hgv⟩ := C0
  refine lv_aload_n hx hb d0 rfl (lv_at hl 0 rfl) ?_
  refine lv_iload_n hx hb d1 rfl (lv_at hl 3 rfl) ?_
  refine lv_iconst hx hb d2 hz ?_
  refine lv_iadd hx hb d3 ?_
  have e1 : zI i + zI j = zI ((i + j : Nat) : Int) := by rw [zI_add]; rfl
  rw [e1]
  refine va_sld hx hb hX hbl (Nat.not_le.mpr hbl) hS (zI_inN hj (by omega)) d4 ?_
  rw [zI_clampN (by omega)]
  exact kk H locs hI hS ls hl
theorem lw_long (C0 : lw_At p s m meth c b L xs) (hL : L ≤ 2560) (hi : i + 5 ≤ L) (n' : Nat) (hj : i + 4 < L) (d0 : decode cL_law pc = .ok (.aload_n 0, 1)) (d1 : decode cL_law (pc + 1) = .ok (.iload_n 3, 1)) (d2 : decode cL_law (pc + 2) = .ok (.iconst 3, 1)) (d3 : decode cL_law (pc + 3) = .ok (.iadd, 1)) (d4 : decode cL_law (pc + 4) = .ok (.iaload, 1)) (d5 : decode cL_law (pc + 5) = .ok (.i2l, 1)) (d6 : decode cL_law (pc + 6) = .ok (.bipush 32, 2)) (d8 : decode cL_law (pc + 8) = .ok (.lshl, 1))
    (d9 : decode cL_law (pc + 9) = .ok (.aload_n 0, 1)) (d10 : decode cL_law (pc + 10) = .ok (.iload_n 3, 1)) (d11 : decode cL_law (pc + 11) = .ok (.iconst 4, 1)) (d12 : decode cL_law (pc + 12) = .ok (.iadd, 1)) (d13 : decode cL_law (pc + 13) = .ok (.iaload, 1)) (d14 : decode cL_law (pc + 14) = .ok (.i2l, 1)) (d15 : decode cL_law (pc + 15) = .ok (.ldc2_w 162, 3)) (d18 : decode cL_law (pc + 18) = .ok (.land, 1)) (d19 : decode cL_law (pc + 19) = .ok (.lor, 1)) (hn : pc + 20 = n')
    (kk : lw_wp p l e s m below meth c b X τ k n i n' (.long (lw_v xs i) :: st) hA hM) : lw_wp p l e s m below meth c b X τ k n i pc st hA hM := by
  subst hn
  intro H locs hI hS ls hl
  obtain ⟨hx, hb, hr, hml, hown, hts, hX, hbl, hlocks, hgv⟩ := C0
  have e1 : zI i + zI 3 = zI ((i + 3 : Nat) : Int) := by rw [zI_add]; rfl
  have e2 : zI i + zI 4 = zI ((i + 4 : Nat) : Int) := by rw [zI_add]; rfl
  refine lv_aload_n hx hb d0 rfl (lv_at hl 0 rfl) ?_
  refine lv_iload_n hx hb d1 rfl (lv_at hl 3 rfl) ?_
  refine lv_iconst (v := zI 3) hx hb d2 (by decide) ?_
  refine lv_iadd hx hb d3 ?_
  rw [e1]
  refine va_sld hx hb hX hbl (Nat.not_le.mpr hbl) hS (zI_inN (by omega) (by omega)) d4 ?_
  rw [zI_clampN (by omega)]
  refine lv_i2l hx hb d5 rfl ?_
  refine lv_bipush (v := 32) hx hb d6 (by decide) ?_
  refine lv_lshl hx hb d8 rfl ?_
  refine lv_aload_n hx hb d9 rfl (lv_at hl 0 rfl) ?_
  refine lv_iload_n hx hb d10 rfl (lv_at hl 3 rfl) ?_
  refine lv_iconst (v := zI 4) hx hb d11 (by decide) ?_
  refine lv_iadd hx hb d12 ?_
  rw [e2]
  refine va_sld hx hb hX hbl (Nat.not_le.mpr hbl) hS (zI_inN (by omega) (by omega)) d13 ?_
  rw [zI_clampN (by omega)]
  refine lv_i2l hx hb d14 rfl ?_
  refine lv_ldc2 (own := RL) (v := 4294967295) hx hb hown (hts _ (List.mem_filter.mp kk_RL_162).1) d15 ?_
  refine lv_land hx hb d18 ?_
  refine lv_lor hx hb d19 ?_
  exact kk H locs hI hS ls hl
theorem lw_eqI (C0 : lw_At p s m meth c b L xs) (n' : Nat) {off : Int} {x : Int32} (hd : decode cL_law pc = .ok (.if_icmp .eq off, 3)) (ht : (pc : Int) + off = (n' : Int)) (kk : lw_wp p l e s m below meth c b X τ k n i n' st hA hM) : lw_wp p l e s m below meth c b X τ k n i pc (.int x :: .int x :: st) hA hM := by
  intro H locs hI hS ls hl
  exact lv_icmp_eq C0.1 C0.2.1 hd ht (fun _ => kk H locs hI hS ls hl) (fun q => absurd rfl q)
theorem lw_eqL (C0 : lw_At p s m meth c b L xs) (n' : Nat) {off : Int} {x : Int64} (hd : decode cL_law pc = .ok (.lcmp, 1)) (hd2 : decode cL_law (pc + 1) = .ok (.ifCond .eq off, 3)) (ht : ((pc + 1 : Nat) : Int) + off = (n' : Int)) (kk : lw_wp p l e s m below meth c b X τ k n i n' st hA hM) : lw_wp p l e s m below meth c b X τ k n i pc (.long x :: .long x :: st) hA hM := by
  intro H locs hI hS ls hl
  refine W.lcmp C0.1 C0.2.1 hd ?_
  exact lv_if_eq C0.1 C0.2.1 hd2 ht (fun _ => kk H locs hI hS ls hl) (fun q => absurd (lc_eq.mpr rfl) q)
theorem lw_good {u : Cond} (h : u ∈ sw_big) : u ∈ lw_tbl ∧ ((u.onTables && u.keeps) = true ∨ ∃ ty, u = .arrayClass ty) := ⟨(List.mem_filter.mp h).1, sw_big_good h⟩
theorem lw_goodV {idx ci np : Nat} {y2 : sw_M} (g : sw_mv RL idx y2 ci np) : GoodIn lw_tbl (wsV RL idx y2.1.cls y2.1 (sw_mw y2)) := by
  obtain ⟨T, N, g1, ⟨g2, g3, g4, g5, g6⟩, g7, g8⟩ := g
  intro u hu
  rcases List.mem_append.mp hu with hu | hu
  · simp only [List.mem_cons, List.not_mem_nil, or_false] at hu
    rcases hu with rfl | rfl | rfl | rfl
    · exact lw_good g2
    · exact lw_good g3
    · exact lw_good g4
    · exact lw_good g5
  · rcases List.mem_cons.mp hu with rfl | hu
    · exact lw_good g6
    · exact lw_good hu
theorem lw_run {w : sw_W} {Y : sw_X} {d idx ci np : Nat} {y2 : sw_M} {As : List Value} {h : sw_H} {H : Heap} {locs : List Loc} {ls : Array Slot} {Q2 : sw_Q} (C0 : lw_At p s m meth c b L xs) (hK : sw_K Y s) (hi : sw_inj w Y) (hP : va_P (Y.1, Y.2.1) sw_cl (sw_ws w Y h) H) (hl : ls.size = 4)
    (hd : decode cL_law pc = .ok (.invokevirtual idx, 3)) (g : sw_mv RL idx y2 ci np) (C : sw_ct w Y l d y2 (.ref 0 :: As) h Q2) (ho : sw_o w 0 ci) (hA : As.length = np) (hAs : As.map (sw_cv Y.2.2.2) = As) (hw : (st.map fun v => v.category).sum ≤ 8) (hdd : d ≤ 100) (hkn : k ≤ 600000 ∧ n ≤ 7302250) :
    va_Run p l e room_1 s m #[Value.ref b] below meth c H locs k n 0 0 (F0 m pc ls (As.reverse ++ .ref (Y.2.2.2 0) :: st)) st (Q2 (Value.ref (Y.2.2.2 0) :: As).toArray) (sw_A w Y) := by
  have hG := lw_goodV g
  obtain ⟨T, N, g1, ⟨g2, g3, g4, g5, g6⟩, g7, g8⟩ := g
  obtain ⟨hx, hb, hr, hml, hown, hts, hX, hbl, hlocks, hgv⟩ := C0
  have hat := sw_at (w := w) (X := Y) (h := h) ho.1
  rw [sw_eO ho] at hat
  have hp : PreV s H y2.1.cls (Y.2.2.2 0) (sw_pc w Y (.ref 0 :: As) h) As := by
    refine ⟨sw_blind, ?_, fun U hU hW => ⟨?_, ?_, sw_K.warm hW hK, hi⟩⟩
    · obtain ⟨cell, q1, q2, q3⟩ := va_recv hK.1 hP g1 hat
      exact ⟨cell, q1, q2, q3⟩
    · show _ = (Value.ref (Y.2.2.2 0) :: As.map (sw_cv Y.2.2.2)).toArray
      rw [hAs]
    · rw [hU]; exact hP
  exact va_runV (As := As) (rest := st) ⟨hx, hb, hml, hown, hts⟩ C (cwV np hts hG rfl rfl rfl ⟨rfl, g7⟩ ⟨by show d + 1 ≤ 2048; omega, by show 8 + (y2.2.2.1 + 11) + d * 40 ≤ 84000; omega⟩) hp rfl hA hl rfl (lv_room hw) hd hkn
/-- the other world stays -/
theorem lw_keep {w v : sw_W} {Y Z : sw_X} {h : sw_H} {D : va_G} {H H1 : Heap} (hP : va_P D sw_cl (sw_ws v Z h) H) (hap : ∀ a a', a < w.1 → a' < v.1 → Y.2.2.2 a ≠ Z.2.2.2 a') (hk : ∀ q : Nat, q < H.size → ¬ sw_A w Y q → H1[q]? = H[q]?) : va_P D sw_cl (sw_ws v Z h) H1 := by
  intro i q hq
  have hi : i < v.1 := by
    refine Nat.lt_of_not_le fun h9 => ?_
    rw [sw_out (by omega)] at hq; cases hq
  have hl := (hP i q hq).lt
  refine (hP i q hq).kept (hk q.1 hl (fun ⟨a, ha, he⟩ => ?_))
  rw [sw_at hi] at hq
  cases hq
  exact hap a i ha hi he.symm
theorem lw_xI (C0 : lw_At p s m meth c b L xs) (F : lw_fix X τ s) (hkn : k ≤ 600000 ∧ n ≤ 7302250) {d idx np : Nat} {y2 : sw_M} {As stk : List Value} {Q : Int32 → sw_H → Prop} (n' : Nat) (hd : decode cL_law pc = .ok (.invokevirtual idx, 3)) (g : sw_mv RL idx y2 11 np) (C : sw_ct wA X l d y2 (.ref 0 :: As) hA (sw_qI wA X Q)) (hA9 : As.length = np) (hAs : As.map (sw_cv X.2.2.2) = As) (hst : stk = As.reverse ++ .ref (X.2.2.2 0) :: st) (hw : (st.map fun v => v.category).sum ≤ 8) (hdd : d ≤ 100)
    (kk : ∀ (r : Int32) (hA' : sw_H), Q r hA' → lw_wp p l e s m below meth c b X τ k n i (pc + 3) (.int r :: st) hA' hM) : lw_wp p l e s m below meth c b X τ k n i pc stk hA hM := by
  subst hst
  intro H locs hI hS ls hl
  have hrun := lw_run (e := e) (below := below) (locs := locs) (st := st) C0 F.1 F.2.1 hI.1 hl.1 hd g C ⟨by decide, rfl⟩ hA9 hAs hw hdd hkn
  have hfr : ∀ q, sw_A wA X q → s.heap.size ≤ q := fun q ⟨a, ha, h⟩ => by rw [h]; exact F.2.2.2.1 a ha
  refine va_calli hrun hS (fun q _ h => hfr q h) hfr (fun r u t H1 locs1 ht hvm hr hB hz1 hk1 hS1 => ?_)
  obtain ⟨hP1, -, -⟩ := hB
  rw [ht] at hP1
  exact kk r u hr H1 locs1 ⟨hP1, lw_keep hI.2 F.2.2.2.2.2 hk1⟩ hS1 ls hl
theorem lw_xL (C0 : lw_At p s m meth c b L xs) (F : lw_fix X τ s) (hkn : k ≤ 600000 ∧ n ≤ 7302250) {d idx np : Nat} {y2 : sw_M} {As stk : List Value} {Q : Int64 → sw_H → Prop} (n' : Nat) (hd : decode cL_law pc = .ok (.invokevirtual idx, 3)) (g : sw_mv RL idx y2 11 np) (C : sw_ct wA X l d y2 (.ref 0 :: As) hA (sw_qL wA X Q)) (hA9 : As.length = np) (hAs : As.map (sw_cv X.2.2.2) = As) (hst : stk = As.reverse ++ .ref (X.2.2.2 0) :: st) (hw : (st.map fun v => v.category).sum ≤ 8) (hdd : d ≤ 100)
    (kk : ∀ (r : Int64) (hA' : sw_H), Q r hA' → lw_wp p l e s m below meth c b X τ k n i (pc + 3) (.long r :: st) hA' hM) : lw_wp p l e s m below meth c b X τ k n i pc stk hA hM := by
  subst hst
  intro H locs hI hS ls hl
  have hrun := lw_run (e := e) (below := below) (locs := locs) (st := st) C0 F.1 F.2.1 hI.1 hl.1 hd g C ⟨by decide, rfl⟩ hA9 hAs hw hdd hkn
  have hfr : ∀ q, sw_A wA X q → s.heap.size ≤ q := fun q ⟨a, ha, h⟩ => by rw [h]; exact F.2.2.2.1 a ha
  refine va_calll hrun hS (fun q _ h => hfr q h) hfr (fun r u t H1 locs1 ht hvm hr hB hz1 hk1 hS1 => ?_)
  obtain ⟨hP1, -, -⟩ := hB
  rw [ht] at hP1
  exact kk r u hr H1 locs1 ⟨hP1, lw_keep hI.2 F.2.2.2.2.2 hk1⟩ hS1 ls hl
theorem lw_mI (C0 : lw_At p s m meth c b L xs) (F : lw_fix X τ s) (hkn : k ≤ 600000 ∧ n ≤ 7302250) {d idx np : Nat} {y2 : sw_M} {As stk : List Value} {Q : Int32 → sw_H → Prop} (n' : Nat) (hd : decode cL_law pc = .ok (.invokevirtual idx, 3)) (g : sw_mv RL idx y2 12 np) (C : sw_ct wM (xU X τ) l d y2 (.ref 0 :: As) hM (sw_qI wM (xU X τ) Q)) (hA9 : As.length = np) (hAs : As.map (sw_cv τ) = As) (hst : stk = As.reverse ++ .ref (τ 0) :: st) (hw : (st.map fun v => v.category).sum ≤ 8) (hdd : d ≤ 100)
    (kk : ∀ (r : Int32) (hM' : sw_H), Q r hM' → lw_wp p l e s m below meth c b X τ k n i (pc + 3) (.int r :: st) hA hM') : lw_wp p l e s m below meth c b X τ k n i pc stk hA hM := by
  subst hst
  intro H locs hI hS ls hl
  have hrun := lw_run (Y := xU X τ) (e := e) (below := below) (locs := locs) (st := st) C0 F.1 F.2.2.1 hI.2 hl.1 hd g C ⟨by decide, rfl⟩ hA9 hAs hw hdd hkn
  have hfr : ∀ q, sw_A wM (xU X τ) q → s.heap.size ≤ q := fun q ⟨a, ha, h⟩ => by rw [h]; exact F.2.2.2.2.1 a ha
  refine va_calli hrun hS (fun q _ h => hfr q h) hfr (fun r u t H1 locs1 ht hvm hr hB hz1 hk1 hS1 => ?_)
  obtain ⟨hP1, -, -⟩ := hB
  rw [ht] at hP1
  exact kk r u hr H1 locs1 ⟨lw_keep (w := wM) (Y := xU X τ) hI.1 (fun a a' h1 h2 he => F.2.2.2.2.2 a' a h2 h1 he.symm) hk1, hP1⟩ hS1 ls hl
theorem lw_mL (C0 : lw_At p s m meth c b L xs) (F : lw_fix X τ s) (hkn : k ≤ 600000 ∧ n ≤ 7302250) {d idx np : Nat} {y2 : sw_M} {As stk : List Value} {Q : Int64 → sw_H → Prop} (n' : Nat) (hd : decode cL_law pc = .ok (.invokevirtual idx, 3)) (g : sw_mv RL idx y2 12 np) (C : sw_ct wM (xU X τ) l d y2 (.ref 0 :: As) hM (sw_qL wM (xU X τ) Q)) (hA9 : As.length = np) (hAs : As.map (sw_cv τ) = As) (hst : stk = As.reverse ++ .ref (τ 0) :: st) (hw : (st.map fun v => v.category).sum ≤ 8) (hdd : d ≤ 100)
    (kk : ∀ (r : Int64) (hM' : sw_H), Q r hM' → lw_wp p l e s m below meth c b X τ k n i (pc + 3) (.long r :: st) hA hM') : lw_wp p l e s m below meth c b X τ k n i pc stk hA hM := by
  subst hst
  intro H locs hI hS ls hl
  have hrun := lw_run (Y := xU X τ) (e := e) (below := below) (locs := locs) (st := st) C0 F.1 F.2.2.1 hI.2 hl.1 hd g C ⟨by decide, rfl⟩ hA9 hAs hw hdd hkn
  have hfr : ∀ q, sw_A wM (xU X τ) q → s.heap.size ≤ q := fun q ⟨a, ha, h⟩ => by rw [h]; exact F.2.2.2.2.1 a ha
  refine va_calll hrun hS (fun q _ h => hfr q h) hfr (fun r u t H1 locs1 ht hvm hr hB hz1 hk1 hS1 => ?_)
  obtain ⟨hP1, -, -⟩ := hB
  rw [ht] at hP1
  exact kk r u hr H1 locs1 ⟨lw_keep (w := wM) (Y := xU X τ) hI.1 (fun a a' h1 h2 he => F.2.2.2.2.2 a' a h2 h1 he.symm) hk1, hP1⟩ hS1 ls hl
end sw_law1
