/-! CONSTRUCTORS: fields, rows, calls -/
section sw_cons2
variable {X : sw_X} {l : Launch} {d : Nat} {y : sw_M} {mc ms sz : Nat} {w0 : va_W} {Qc : sw_Q} {pc : Nat} {lc lc' : List (Nat × Value)} {st : List Value} {ws : va_W} {k n : Nat}
/-- the entry idx of own's file is the final field kf of class ci -/
def cn_pf (own : String) (idx ci kf : Nat) : Prop := ∃ (C : String) (T : u_T) (N : Nat), sw_cf ci C T N ∧ kf < N ∧ Cond.fieldLink own idx (T kf).1 (T kf).2.1 (T kf).2.2.1 ∈ sw_big ∧ (T kf).2.2.2 = true ∧ (T kf).1 = own
theorem cn_putF (n' : Nat) {idx ci kf a : Nat} {fs : List Value} {v : Value} (q0 : Nat) (g : cn_pf y.1.cls idx ci kf) (hin : y.1.name = "<init>") (he : ws[q0]? = some (a, .inr (ci, fs))) (hv : narrow (sw_ty ci kf) v = v) (hf : fits (sw_ty ci kf) v = true) (hl9 : kf < fs.length) (hd : decode y.2.1 pc = .ok (.putfield idx, 3)) (hn : pc + 3 = n')
    (kk : cn_wp X l d y mc ms sz w0 Qc n' lc st (ws.set q0 (a, .inr (ci, fs.set kf v))) k n) : cn_wp X l d y mc ms sz w0 Qc pc lc (v :: .ref a :: st) ws k n := by
  subst hn
  intro p e s m args below meth c s₁ B hml hK hz H locs hP hD hS ls hl
  obtain ⟨C, T, N, ⟨c1, c2, c3, c4, c5⟩, hk, hl2, hfin, hdecl⟩ := g
  have hts := atoms_spec (ws := sw_mw y) B.pre
  exact va_putF (ci := ci) (C := C) (T := T) (N := N) (v := v) (ty := sw_ty ci kf) B.exec B.bytes hts (fun u hu => sw_mem (c3 u hu)) (sw_ty ci) c4 c5 (findClass_of_methodNamed B.named) hK.1 hP hD hS q0 he c1 kf hk (hts _ (sw_mem hl2)) (fun _ h9 => h9) hfin (by rw [(name_of_methodNamed B.named B.method).1]; exact hin) hdecl (c4 kf hk) hv hf hl9 hd (fun H1 locs1 hP1 hD1 hS1 => kk p e s m args below meth c s₁ B hml hK hz H1 locs1 hP1 hD1 hS1 ls hl)
theorem cn_put (n' : Nat) {idx ci kf a : Nat} {fs : List Value} {v : Value} (q0 : Nat) (g : sw_pf y.1.cls idx ci kf) (he : ws[q0]? = some (a, .inr (ci, fs))) (hv : narrow (sw_ty ci kf) v = v) (hf : fits (sw_ty ci kf) v = true) (hl9 : kf < fs.length) (hd : decode y.2.1 pc = .ok (.putfield idx, 3)) (hn : pc + 3 = n')
    (kk : cn_wp X l d y mc ms sz w0 Qc n' lc st (ws.set q0 (a, .inr (ci, fs.set kf v))) k n) : cn_wp X l d y mc ms sz w0 Qc pc lc (v :: .ref a :: st) ws k n := by
  subst hn
  intro p e s m args below meth c s₁ B hml hK hz H locs hP hD hS ls hl
  obtain ⟨C, T, N, ⟨c1, c2, c3, c4, c5⟩, hk, hl2, hfin⟩ := g
  have hts := atoms_spec (ws := sw_mw y) B.pre
  exact va_put (ci := ci) (C := C) (T := T) (N := N) (v := v) (ty := sw_ty ci kf) B.exec B.bytes hts (fun u hu => sw_mem (c3 u hu)) (sw_ty ci) c4 c5 (findClass_of_methodNamed B.named) hK.1 hP hD hS q0 he c1 kf hk (hts _ (sw_mem hl2)) (fun _ h9 => h9) hfin (c4 kf hk) hv hf hl9 hd (fun H1 locs1 hP1 hD1 hS1 => kk p e s m args below meth c s₁ B hml hK hz H1 locs1 hP1 hD1 hS1 ls hl)
theorem cn_get (n' : Nat) {idx ci kf a : Nat} {fs : List Value} {v : Value} (q0 : Nat) (g : sw_gf y.1.cls idx ci kf) (he : ws[q0]? = some (a, .inr (ci, fs))) (hv : fs[kf]? = some v) (hd : decode y.2.1 pc = .ok (.getfield idx, 3)) (hn : pc + 3 = n')
    (kk : cn_wp X l d y mc ms sz w0 Qc n' lc (v :: st) ws k n) : cn_wp X l d y mc ms sz w0 Qc pc lc (.ref a :: st) ws k n := by
  subst hn
  intro p e s m args below meth c s₁ B hml hK hz H locs hP hD hS ls hl
  obtain ⟨C, T, N, ⟨c1, c2, c3, c4, c5⟩, hk, hl2, -⟩ := g
  have hts := atoms_spec (ws := sw_mw y) B.pre
  exact va_get (ci := ci) (C := C) (T := T) (N := N) B.exec B.bytes hts (fun u hu => sw_mem (c3 u hu)) (findClass_of_methodNamed B.named) hK.1 hP q0 he c1 kf hk (hts _ (sw_mem hl2)) (fun _ h9 => h9) hv hd (kk p e s m args below meth c s₁ B hml hK hz H locs hP hD hS ls hl)
theorem cn_iast (n' : Nat) {a z : Nat} {f : Nat → Int32} {i x : Int32} (q0 : Nat) (he : ws[q0]? = some (a, .inl (X.2.2.1 0, z, .inl f))) (hin : vp_in i z) (hd : decode y.2.1 pc = .ok (.iastore, 1)) (hn : pc + 1 = n')
    (kk : cn_wp X l d y mc ms sz w0 Qc n' lc st (ws.set q0 (a, .inl (X.2.2.1 0, z, .inl (upd f i.toNatClampNeg x)))) k n) : cn_wp X l d y mc ms sz w0 Qc pc lc (.int x :: .int i :: .ref a :: st) ws k n := by
  subst hn
  intro p e s m args below meth c s₁ B hml hK hz H locs hP hD hS ls hl
  exact va_iast B.exec B.bytes hK.1 hP hD hS q0 0 he rfl hin hd (fun H1 locs1 hP1 hD1 hS1 => kk p e s m args below meth c s₁ B hml hK hz H1 locs1 hP1 hD1 hS1 ls hl)
theorem cn_astq (n' : Nat) {a z v ci : Nat} {r : vw_C} {vs : List Value} {f : Nat → Option Nat} {i : Int32} (q0 t qk : Nat) (he : ws[q0]? = some (a, .inl (X.2.2.1 t, z, .inr (.inr (.inr (.inr f)))))) (ht : (sw_ts X)[t]? = some (X.2.2.1 t, .object r.1)) (hv : ws[qk]? = some (v, .inr (ci, vs))) (hc : sw_cl[ci]? = some r) (hin : vp_in i z) (hd : decode y.2.1 pc = .ok (.aastore, 1)) (hn : pc + 1 = n')
    (kk : cn_wp X l d y mc ms sz w0 Qc n' lc st (ws.set q0 (a, .inl (X.2.2.1 t, z, .inr (.inr (.inr (.inr (va_up f i.toNatClampNeg (some v)))))))) k n) : cn_wp X l d y mc ms sz w0 Qc pc lc (.ref v :: .int i :: .ref a :: st) ws k n := by
  subst hn
  intro p e s m args below meth c s₁ B hml hK hz H locs hP hD hS ls hl
  exact va_astq B.exec B.bytes hK.1 hP hD hS q0 t qk ci he ht hv hc hin hd (fun H1 locs1 hP1 hD1 hS1 => kk p e s m args below meth c s₁ B hml hK hz H1 locs1 hP1 hD1 hS1 ls hl)
theorem cn_obj (n' : Nat) {idx a : Nat} (hlink : Cond.methodLink y.1.cls idx objectInit ∈ sw_big) (hinst : Cond.instanceMethod objectInit ∈ sw_big) (hcode : Cond.code objectInit ⟨#[0xb1]⟩ 1 none ∈ sw_big) (hd : decode y.2.1 pc = .ok (.invokespecial idx, 3)) (hn : pc + 3 = n')
    (kk : cn_wp X l (d + 1) y mc ms sz w0 Qc n' lc [] ws k n) : cn_wp X l (d + 1) y mc ms sz w0 Qc pc lc [.ref a] ws k n := by
  subst hn
  intro p e s m args below meth c s₁ B hml hK hz H locs hP hD hS ls hl
  have hts := atoms_spec (ws := sw_mw y) B.pre
  refine W.objInit B.exec B.bytes (findClass_of_methodNamed B.named) (hts _ (sw_mem hlink)) (hts _ (sw_mem hinst)) (hts _ (sw_mem hcode)) rfl (by rw [hml]; exact hl.1) rfl hd (by show 1 ≤ d + 1; omega) (by show 0 + 0 + 12 ≤ (d + 1) * 40; omega) ?_
  exact kk p e s m args below meth c s₁ B hml hK hz H locs hP hD hS ls hl
/-- a new cell, its callee's cells come in its place -/
theorem cn_join {D : va_G} {cl : List vw_C} {A : Nat → Prop} {w1 : va_W} {q : Nat} {x : va_E} {H H1 : Heap} (hP : va_P D cl (ws ++ [(q, x)]) H) (hD : va_D A (ws ++ [(q, x)])) (hk : ∀ z : Nat, z < H.size → ¬ va_A [(q, x)] H.size z → H1[z]? = H[z]?) (hF : ∀ z, va_A [(q, x)] H.size z → A z) (hP1 : va_P D cl w1 H1) (hD1 : va_D (va_A [(q, x)] H.size) w1) : va_P D cl (ws ++ w1) H1 ∧ va_D A (ws ++ w1) := by
  have at1 : ∀ (i : Nat) (z : Nat × va_E), ws[i]? = some z → (ws ++ [(q, x)])[i]? = some z := fun i z h => by
    rw [List.getElem?_append_left ((List.getElem?_eq_some_iff.mp h).1)]; exact h
  have lastq : (ws ++ [(q, x)])[ws.length]? = some (q, x) := by rw [List.getElem?_append_right (Nat.le_refl _), Nat.sub_self]; rfl
  have apart : ∀ (i : Nat) (z : Nat × va_E), ws[i]? = some z → z.1 < H.size ∧ ¬ va_A [(q, x)] H.size z.1 := by
    intro i z h
    have hl := (hP i z (at1 i z h)).lt
    refine ⟨hl, fun h9 => ?_⟩
    rcases h9 with ⟨k2, e2, h9⟩ | h9
    · have hk2 : k2 = 0 := by
        have := (List.getElem?_eq_some_iff.mp h9).1
        simpa using this
      subst hk2
      cases h9
      have := hD.1 i ws.length z (z.1, x) (at1 i z h) lastq rfl
      have := (List.getElem?_eq_some_iff.mp h).1
      omega
    · omega
  refine ⟨va_P.app (fun i z h => (hP i z (at1 i z h)).kept (hk z.1 (apart i z h).1 (apart i z h).2)) hP1, va_D.app ⟨fun i j a b ha hb he => hD.1 i j a b (at1 i a ha) (at1 j b hb) he, fun i z h => hD.2 i z (at1 i z h)⟩ (hD1.weaken (fun i z _ h => hF z.1 h)) (fun i j a b ha hb he => (apart i a ha).2 (by rw [he]; exact hD1.2 j b hb))⟩
theorem cn_blind {av : List Value} : FrameBlind (va_Pc av (cn_in X sz w0)) := by
  intro a U g mk q
  obtain ⟨q0, q1, q2, q3, q4⟩ := q
  exact ⟨q0, q1, q2, cn_K.call q3, q4⟩
theorem cn_freeA {q : Nat} {x : va_E} {H : Heap} (hD : va_D (va_A w0 sz) (ws ++ [(q, x)])) (hz : sz ≤ H.size) : ∀ z, va_A [(q, x)] H.size z → va_A w0 sz z := by
  intro z h
  rcases h with ⟨k2, e2, h9⟩ | h9
  · have hk2 : k2 = 0 := by
      have := (List.getElem?_eq_some_iff.mp h9).1
      simpa using this
    subst hk2
    cases h9
    exact hD.2 ws.length (_, x) (by rw [List.getElem?_append_right (Nat.le_refl _), Nat.sub_self]; rfl)
  · exact Or.inr (by omega)
/-- a constructor of another class, in the open or a nest mate's -/
theorem cn_ctor (n' : Nat) {y2 : sw_M} {idx ci np mc2 ms2 q : Nat} {fs0 : List Value} {wF : (Nat → Nat) → va_W} {As stk : List Value} (hlk : Cond.methodLink y.1.cls idx y2.1 ∈ sw_big ∨ ∃ host, (y.1.cls, idx, y2.1, host) ∈ cn_nest) (hini : Cond.initialized y2.1.cls ∈ sw_big) (hinst : Cond.instanceMethod y2.1 ∈ sw_big) (hcode : Cond.code y2.1 y2.2.1 y2.2.2.1 none ∈ sw_big) (hr2 : y2.2.2.2 = none) (hin : y2.1.name = "<init>") (hds : y2.1.cls ≠ "java/lang/invoke/MethodHandle" ∧ y2.1.cls ≠ "java/lang/invoke/VarHandle" ∧ (parseMethodDescriptor y2.1.desc).map (fun d => d.parameters.length) = some np) (hmx : y2.2.2.1 ≤ 21)
    (C : cn_ct X l d y2 (.ref q :: As) [(q, .inr (ci, fs0))] wF q mc2 ms2) (hA : As.length = np) (hst : stk = As.reverse ++ .ref q :: st) (hw : (st.map fun v => v.category).sum ≤ 8) (hd : decode y.2.1 pc = .ok (.invokespecial idx, 3)) (hn : pc + 3 = n') (hk : k + mc2 ≤ mc) (hm : n + ms2 ≤ ms)
    (kk : ∀ u : Nat → Nat, u 0 = q → cn_wp X l (d + 1) y mc ms sz w0 Qc n' lc st (ws ++ wF u) (k + mc2) (n + ms2)) : cn_wp X l (d + 1) y mc ms sz w0 Qc pc lc stk (ws ++ [(q, .inr (ci, fs0))]) k n := by
  subst hn
  intro p e s m args below meth c s₁ B hml hK hz H locs hP hD hS ls hl
  have hts := atoms_spec (ws := sw_mw y) B.pre
  have hown : s.vm.findClass y.1.cls = some m.cls := findClass_of_methodNamed B.named
  have hsz : sz ≤ H.size := by rw [← hz]; exact hS.1
  have hF := cn_freeA (w0 := w0) (sz := sz) hD hsz
  have hG : GoodIn (sw_mw y) (sw_mw y2) := sw_good (by rw [hr2]; exact hcode)
  have lastq : (ws ++ [(q, (.inr (ci, fs0) : va_E))])[ws.length]? = some (q, .inr (ci, fs0)) := by rw [List.getElem?_append_right (Nat.le_refl _), Nat.sub_self]; rfl
  have hPq : va_P (X.1, X.2.1) sw_cl [(q, .inr (ci, fs0))] H := fun i z h => by
    have hi : i = 0 := by
      have := (List.getElem?_eq_some_iff.mp h).1
      simpa using this
    subst hi
    cases h
    exact hP _ _ lastq
  have hDq : va_D (fun _ => True) [(q, (.inr (ci, fs0) : va_E))] := ⟨fun i j a b ha hb _ => by
    have h1 := (List.getElem?_eq_some_iff.mp ha).1
    have h2 := (List.getElem?_eq_some_iff.mp hb).1
    simp at h1 h2
    omega, fun _ _ _ => trivial⟩
  have hp : PreS s H (va_Pc (.ref q :: As) (cn_in X H.size [(q, .inr (ci, fs0))])) (.ref q :: As) := ⟨cn_blind, fun U hU hW => ⟨rfl, by rw [hU], by rw [hU]; exact hPq, cn_K.warm hW hK, hDq⟩⟩
  have hR : (cn_rm d mc2 ms2).frames + 1 ≤ (cn_rm (d + 1) mc ms).frames ∧ 8 + (y2.2.2.1 + 11) + (cn_rm d mc2 ms2).locals ≤ (cn_rm (d + 1) mc ms).locals := ⟨Nat.le_refl _, by show 8 + (y2.2.2.1 + 11) + d * 40 ≤ (d + 1) * 40; omega⟩
  have hrun : va_Run p l e (cn_rm (d + 1) mc ms) s m args below meth c H locs k n mc2 ms2 (F0 m pc ls stk) st (cn_q X H.size [(q, .inr (ci, fs0))] wF q (Value.ref q :: As).toArray) (va_A [(q, .inr (ci, fs0))] H.size) := by
    rcases hlk with hlk | ⟨host, hlk⟩
    · exact va_runI (As := As) (rest := st) ⟨B.exec, B.bytes, hml, hown, hts⟩ (C H.size) (cwI (bytes := y2.2.1) (maxL := y2.2.2.1) np hts hG (by unfold sw_mw; rw [hr2]) rfl rfl (hts _ (sw_mem hini)) (hts _ (sw_mem hlk)) (hts _ (sw_mem hinst)) hin hds hR) hp rfl hA hl.1 hst (lv_room hw) hd ⟨hk, hm⟩
    · exact va_runIN (As := As) (rest := st) ⟨B.exec, B.bytes, hml, hown, hts⟩ (C H.size) ⟨va_cnB (bytes := y2.2.1) (maxL := y2.2.2.1) np hts hG (by unfold sw_mw; rw [hr2]) rfl rfl (hK.2.2.2 _ hlk) (hts _ (sw_mem hini)) hds hR, hin, hts _ (sw_mem hinst)⟩ hp rfl hA hl.1 hst (lv_room hw) hd ⟨hk, hm⟩
  refine va_callv hrun hS (fun z _ h => hF z h) hF (fun u t H1 locs1 ht hvm hu hB hz1 hk1 hS1 => ?_)
  obtain ⟨hP1, hD1⟩ := hB
  rw [ht] at hP1
  obtain ⟨hP2, hD2⟩ := cn_join hP hD hk1 hF hP1 hD1
  exact kk u hu p e s m args below meth c s₁ B hml hK hz H1 locs1 hP2 hD2 hS1 ls hl
end sw_cons2
