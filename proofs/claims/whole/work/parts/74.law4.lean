/-! THE LAW: its loop -/
section sw_law3
variable {p : Program} {l : Launch} {e : Env} {s : State} {m : MethodId} {below : List Frame} {meth : Method} {c : Code} {b L : Nat} {xs : Nat → Int32} {X : sw_X} {τ : Nat → Nat} {k n i : Nat} {hA hM : sw_H} {σ : SgZ}
theorem lw_case (C0 : lw_At p s m meth c b L xs) (hL : L ≤ 2560) (F : lw_fix X τ s) (hkn : k ≤ 600000 ∧ n ≤ 7302250) (hi : i + 5 ≤ L) (K : okS σ) (I : IA hA σ) (J : IM hM σ) (kont : ∀ (σ' : SgZ) (hA' hM' : sw_H), okS σ' → IA hA' σ' → IM hM' σ' → lw_wp p l e s m below meth c b X τ k n i 1442 [] hA' hM') : lw_wp p l e s m below meth c b X τ k n i 32 [.int (xs i &&& zI 63)] hA hM := by
  intro H locs hI hS ls hl
  by_cases h : (xs i &&& zI 63).toInt < 0 ∨ 42 < (xs i &&& zI 63).toInt
  · exact lv_tableOut (tgt := 1442) C0.1 C0.2.1 dL_law_32 h (by decide) (kont σ hA hM K I J H locs hI hS ls hl)
  · rcases (show (xs i &&& zI 63).toInt = 0 ∨ (xs i &&& zI 63).toInt = 1 ∨ (xs i &&& zI 63).toInt = 2 ∨ (xs i &&& zI 63).toInt = 3 ∨ (xs i &&& zI 63).toInt = 4 ∨ (xs i &&& zI 63).toInt = 5 ∨ (xs i &&& zI 63).toInt = 6 ∨ (xs i &&& zI 63).toInt = 7 ∨ (xs i &&& zI 63).toInt = 8 ∨ (xs i &&& zI 63).toInt = 9 ∨ (xs i &&& zI 63).toInt = 10 ∨ (xs i &&& zI 63).toInt = 11 ∨ (xs i &&& zI 63).toInt = 12 ∨ (xs i &&& zI 63).toInt = 13 ∨ (xs i &&& zI 63).toInt = 14 ∨ (xs i &&& zI 63).toInt = 15 ∨ (xs i &&& zI 63).toInt = 16 ∨ (xs i &&& zI 63).toInt = 17 ∨ (xs i &&& zI 63).toInt = 18 ∨ (xs i &&& zI 63).toInt = 19 ∨ (xs i &&& zI 63).toInt = 20 ∨ (xs i &&& zI 63).toInt = 21 ∨ (xs i &&& zI 63).toInt = 22 ∨ (xs i &&& zI 63).toInt = 23 ∨ (xs i &&& zI 63).toInt = 24 ∨ (xs i &&& zI 63).toInt = 25 ∨ (xs i &&& zI 63).toInt = 26 ∨ (xs i &&& zI 63).toInt = 27 ∨ (xs i &&& zI 63).toInt = 28 ∨ (xs i &&& zI 63).toInt = 29 ∨ (xs i &&& zI 63).toInt = 30 ∨ (xs i &&& zI 63).toInt = 31 ∨ (xs i &&& zI 63).toInt = 32 ∨ (xs i &&& zI 63).toInt = 33 ∨ (xs i &&& zI 63).toInt = 34 ∨ (xs i &&& zI 63).toInt = 35 ∨ (xs i &&& zI 63).toInt = 36 ∨ (xs i &&& zI 63).toInt = 37 ∨ (xs i &&& zI 63).toInt = 38 ∨ (xs i &&& zI 63).toInt = 39 ∨ (xs i &&& zI 63).toInt = 40 ∨ (xs i &&& zI 63).toInt = 41 ∨ (xs i &&& zI 63).toInt = 42 by omega) with h9 | h9 | h9 | h9 | h9 | h9 | h9 | h9 | h9 | h9 | h9 | h9 | h9 | h9 | h9 | h9 | h9 | h9 | h9 | h9 | h9 | h9 | h9 | h9 | h9 | h9 | h9 | h9 | h9 | h9 | h9 | h9 | h9 | h9 | h9 | h9 | h9 | h9 | h9 | h9 | h9 | h9 | h9
    · exact lv_tableIn (off := 188) (tgt := 220) C0.1 C0.2.1 dL_law_32 (by omega) (by omega) (by rw [h9]; rfl) (by decide) (lc_prime C0 hL F hkn hi K I J kont H locs hI hS ls hl)
    · exact lv_tableIn (off := 211) (tgt := 243) C0.1 C0.2.1 dL_law_32 (by omega) (by omega) (by rw [h9]; rfl) (by decide) (lc_drop C0 hL F hkn hi K I J kont H locs hI hS ls hl)
    · exact lv_tableIn (off := 234) (tgt := 266) C0.1 C0.2.1 dL_law_32 (by omega) (by omega) (by rw [h9]; rfl) (by decide) (lc_primeOf C0 hL F hkn hi K I J kont H locs hI hS ls hl)
    · exact lv_tableIn (off := 257) (tgt := 289) C0.1 C0.2.1 dL_law_32 (by omega) (by omega) (by rw [h9]; rfl) (by decide) (lc_box C0 hL F hkn hi K I J kont H locs hI hS ls hl)
    · exact lv_tableIn (off := 290) (tgt := 322) C0.1 C0.2.1 dL_law_32 (by omega) (by omega) (by rw [h9]; rfl) (by decide) (lc_boxOf C0 hL F hkn hi K I J kont H locs hI hS ls hl)
    · exact lv_tableIn (off := 313) (tgt := 345) C0.1 C0.2.1 dL_law_32 (by omega) (by omega) (by rw [h9]; rfl) (by decide) (lc_put C0 hL F hkn hi K I J kont H locs hI hS ls hl)
    · exact lv_tableIn (off := 356) (tgt := 388) C0.1 C0.2.1 dL_law_32 (by omega) (by omega) (by rw [h9]; rfl) (by decide) (lc_sign C0 hL F hkn hi K I J kont H locs hI hS ls hl)
    · exact lv_tableIn (off := 389) (tgt := 421) C0.1 C0.2.1 dL_law_32 (by omega) (by omega) (by rw [h9]; rfl) (by decide) (lc_powerOf C0 hL F hkn hi K I J kont H locs hI hS ls hl)
    · exact lv_tableIn (off := 422) (tgt := 454) C0.1 C0.2.1 dL_law_32 (by omega) (by omega) (by rw [h9]; rfl) (by decide) (lc_value C0 hL F hkn hi K I J kont H locs hI hS ls hl)
    · exact lv_tableIn (off := 456) (tgt := 488) C0.1 C0.2.1 dL_law_32 (by omega) (by omega) (by rw [h9]; rfl) (by decide) (lc_height C0 hL F hkn hi K I J kont H locs hI hS ls hl)
    · exact lv_tableIn (off := 479) (tgt := 511) C0.1 C0.2.1 dL_law_32 (by omega) (by omega) (by rw [h9]; rfl) (by decide) (lc_isIn C0 hL F hkn hi K I J kont H locs hI hS ls hl)
    · exact lv_tableIn (off := 502) (tgt := 534) C0.1 C0.2.1 dL_law_32 (by omega) (by omega) (by rw [h9]; rfl) (by decide) (lc_times C0 hL F hkn hi K I J kont H locs hI hS ls hl)
    · exact lv_tableIn (off := 545) (tgt := 577) C0.1 C0.2.1 dL_law_32 (by omega) (by omega) (by rw [h9]; rfl) (by decide) (lc_over C0 hL F hkn hi K I J kont H locs hI hS ls hl)
    · exact lv_tableIn (off := 588) (tgt := 620) C0.1 C0.2.1 dL_law_32 (by omega) (by omega) (by rw [h9]; rfl) (by decide) (lc_partner C0 hL F hkn hi K I J kont H locs hI hS ls hl)
    · exact lv_tableIn (off := 621) (tgt := 653) C0.1 C0.2.1 dL_law_32 (by omega) (by omega) (by rw [h9]; rfl) (by decide) (lc_form C0 hL F hkn hi K I J kont H locs hI hS ls hl)
    · exact lv_tableIn (off := 664) (tgt := 696) C0.1 C0.2.1 dL_law_32 (by omega) (by omega) (by rw [h9]; rfl) (by decide) (lc_forms C0 hL F hkn hi K I J kont H locs hI hS ls hl)
    · exact lv_tableIn (off := 687) (tgt := 719) C0.1 C0.2.1 dL_law_32 (by omega) (by omega) (by rw [h9]; rfl) (by decide) (lc_answers C0 hL F hkn hi K I J kont H locs hI hS ls hl)
    · exact lv_tableIn (off := 700) (tgt := 732) C0.1 C0.2.1 dL_law_32 (by omega) (by omega) (by rw [h9]; rfl) (by decide) (lc_answer C0 hL F hkn hi K I J kont H locs hI hS ls hl)
    · exact lv_tableIn (off := 734) (tgt := 766) C0.1 C0.2.1 dL_law_32 (by omega) (by omega) (by rw [h9]; rfl) (by decide) (lc_take C0 hL F hkn hi K I J kont H locs hI hS ls hl)
    · exact lv_tableIn (off := 767) (tgt := 799) C0.1 C0.2.1 dL_law_32 (by omega) (by omega) (by rw [h9]; rfl) (by decide) (lc_which C0 hL F hkn hi K I J kont H locs hI hS ls hl)
    · exact lv_tableIn (off := 790) (tgt := 822) C0.1 C0.2.1 dL_law_32 (by omega) (by omega) (by rw [h9]; rfl) (by decide) (lc_groups C0 hL F hkn hi K I J kont H locs hI hS ls hl)
    · exact lv_tableIn (off := 803) (tgt := 835) C0.1 C0.2.1 dL_law_32 (by omega) (by omega) (by rw [h9]; rfl) (by decide) (lc_groupOf C0 hL F hkn hi K I J kont H locs hI hS ls hl)
    · exact lv_tableIn (off := 826) (tgt := 858) C0.1 C0.2.1 dL_law_32 (by omega) (by omega) (by rw [h9]; rfl) (by decide) (lc_group C0 hL F hkn hi K I J kont H locs hI hS ls hl)
    · exact lv_tableIn (off := 859) (tgt := 891) C0.1 C0.2.1 dL_law_32 (by omega) (by omega) (by rw [h9]; rfl) (by decide) (lc_lots C0 hL F hkn hi K I J kont H locs hI hS ls hl)
    · exact lv_tableIn (off := 892) (tgt := 924) C0.1 C0.2.1 dL_law_32 (by omega) (by omega) (by rw [h9]; rfl) (by decide) (lc_sieve C0 hL F hkn hi K I J kont H locs hI hS ls hl)
    · exact lv_tableIn (off := 915) (tgt := 947) C0.1 C0.2.1 dL_law_32 (by omega) (by omega) (by rw [h9]; rfl) (by decide) (lc_sieveOf C0 hL F hkn hi K I J kont H locs hI hS ls hl)
    · exact lv_tableIn (off := 938) (tgt := 970) C0.1 C0.2.1 dL_law_32 (by omega) (by omega) (by rw [h9]; rfl) (by decide) (lc_forget C0 hL F hkn hi K I J kont H locs hI hS ls hl)
    · exact lv_tableIn (off := 961) (tgt := 993) C0.1 C0.2.1 dL_law_32 (by omega) (by omega) (by rw [h9]; rfl) (by decide) (lc_order C0 hL F hkn hi K I J kont H locs hI hS ls hl)
    · exact lv_tableIn (off := 994) (tgt := 1026) C0.1 C0.2.1 dL_law_32 (by omega) (by omega) (by rw [h9]; rfl) (by decide) (lc_reach C0 hL F hkn hi K I J kont H locs hI hS ls hl)
    · exact lv_tableIn (off := 1017) (tgt := 1049) C0.1 C0.2.1 dL_law_32 (by omega) (by omega) (by rw [h9]; rfl) (by decide) (lc_passes C0 hL F hkn hi K I J kont H locs hI hS ls hl)
    · exact lv_tableIn (off := 1050) (tgt := 1082) C0.1 C0.2.1 dL_law_32 (by omega) (by omega) (by rw [h9]; rfl) (by decide) (lc_left C0 hL F hkn hi K I J kont H locs hI hS ls hl)
    · exact lv_tableIn (off := 1063) (tgt := 1095) C0.1 C0.2.1 dL_law_32 (by omega) (by omega) (by rw [h9]; rfl) (by decide) (lc_feed C0 hL F hkn hi K I J kont H locs hI hS ls hl)
    · exact lv_tableIn (off := 1086) (tgt := 1118) C0.1 C0.2.1 dL_law_32 (by omega) (by omega) (by rw [h9]; rfl) (by decide) (lc_wipe C0 hL F hkn hi K I J kont H locs hI hS ls hl)
    · exact lv_tableIn (off := 1099) (tgt := 1131) C0.1 C0.2.1 dL_law_32 (by omega) (by omega) (by rw [h9]; rfl) (by decide) (lc_read C0 hL F hkn hi K I J kont H locs hI hS ls hl)
    · exact lv_tableIn (off := 1122) (tgt := 1154) C0.1 C0.2.1 dL_law_32 (by omega) (by omega) (by rw [h9]; rfl) (by decide) (lc_spelled C0 hL F hkn hi K I J kont H locs hI hS ls hl)
    · exact lv_tableIn (off := 1155) (tgt := 1187) C0.1 C0.2.1 dL_law_32 (by omega) (by omega) (by rw [h9]; rfl) (by decide) (lc_list C0 hL F hkn hi K I J kont H locs hI hS ls hl)
    · exact lv_tableIn (off := 1188) (tgt := 1220) C0.1 C0.2.1 dL_law_32 (by omega) (by omega) (by rw [h9]; rfl) (by decide) (lc_lay C0 hL F hkn hi K I J kont H locs hI hS ls hl)
    · exact lv_tableIn (off := 1261) (tgt := 1293) C0.1 C0.2.1 dL_law_32 (by omega) (by omega) (by rw [h9]; rfl) (by decide) (lc_get C0 hL F hkn hi K I J kont H locs hI hS ls hl)
    · exact lv_tableIn (off := 1295) (tgt := 1327) C0.1 C0.2.1 dL_law_32 (by omega) (by omega) (by rw [h9]; rfl) (by decide) (lc_film C0 hL F hkn hi K I J kont H locs hI hS ls hl)
    · exact lv_tableIn (off := 1328) (tgt := 1360) C0.1 C0.2.1 dL_law_32 (by omega) (by omega) (by rw [h9]; rfl) (by decide) (lc_judge C0 hL F hkn hi K I J kont H locs hI hS ls hl)
    · exact lv_tableIn (off := 1361) (tgt := 1393) C0.1 C0.2.1 dL_law_32 (by omega) (by omega) (by rw [h9]; rfl) (by decide) (lc_image C0 hL F hkn hi K I J kont H locs hI hS ls hl)
    · exact lv_tableIn (off := 1374) (tgt := 1406) C0.1 C0.2.1 dL_law_32 (by omega) (by omega) (by rw [h9]; rfl) (by decide) (lc_undo C0 hL F hkn hi K I J kont H locs hI hS ls hl)
    · exact lv_tableIn (off := 1387) (tgt := 1419) C0.1 C0.2.1 dL_law_32 (by omega) (by omega) (by rw [h9]; rfl) (by decide) (lc_count C0 hL F hkn hi K I J kont H locs hI hS ls hl)
theorem lw_loop (C0 : lw_At p s m meth c b L xs) (hL : L ≤ 2560) (F : lw_fix X τ s) (hkn : k ≤ 600000 ∧ n ≤ 7302250) : ∀ (f i : Nat) (σ : SgZ) (hA hM : sw_H), L + 1 - i ≤ f → i ≤ L → okS σ → IA hA σ → IM hM σ → lw_wp p l e s m below meth c b X τ k n i 18 [] hA hM := by
  intro f
  induction f with
  | zero => intro i σ hA hM h1 h2; omega
  | succ f ih =>
    intro i σ hA hM hf hi K I J H locs hI hS ls hl
    have C1 := C0
    obtain ⟨hx, hb, hr, hml, hown, hts, hX, hbl, hlocks, hgv⟩ := C0
    refine lv_iload_n hx hb dL_law_18 rfl (lv_at hl 3 rfl) ?_
    refine lv_aload_n hx hb dL_law_19 rfl (lv_at hl 0 rfl) ?_
    refine va_slen hx hb hX hbl (Nat.not_le.mpr hbl) hS dL_law_20 ?_
    refine lv_iconst (v := zI 5) hx hb dL_law_21 (by decide) ?_
    refine lv_isub hx hb dL_law_22 ?_
    have eL : Int32.ofNat L - zI 5 = zI ((L : Int) - 5) := by rw [show Int32.ofNat L = zI L from Int32.ofInt_eq_ofNat.symm, zI_sub]
    rw [eL]
    refine lv_icmp_gt (tgt := 1448) hx hb dL_law_23 (by decide) (fun c23 => ?_) (fun c23 => ?_)
    · refine lv_iconst (v := 1) hx hb dL_law_1448 (by decide) ?_
      refine va_forget (fun q hq => hS.2.2 q hq) ?_
      refine W.widen (k := 600000) (n := 7302250) hkn.1 hkn.2 ?_
      exact lw_ret hx hb hr hlocks dL_law_1449
    · rw [zI_lt (by omega) (by omega) (by omega) (by omega)] at c23
      have hi5 : i + 5 ≤ L := by omega
      refine lv_aload_n hx hb dL_law_26 rfl (lv_at hl 0 rfl) ?_
      refine lv_iload_n hx hb dL_law_27 rfl (lv_at hl 3 rfl) ?_
      refine va_sld hx hb hX hbl (Nat.not_le.mpr hbl) hS (zI_inN (show i < L by omega) (by omega)) dL_law_28 ?_
      rw [zI_clampN (by omega)]
      refine lv_bipush (v := zI 63) hx hb dL_law_29 (by decide) ?_
      refine lv_iand hx hb dL_law_31 ?_
      refine lw_case C1 hL F hkn hi5 K I J (fun σ' hA' hM' K' I' J' => ?_) H locs hI hS ls hl
      intro H locs hI hS ls hl
      refine lv_iinc (v := zI ((i + 5 : Nat) : Int)) (lv' := [(3, .int (zI ((i + 5 : Nat) : Int))), (0, .ref b), (1, .ref (X.2.2.2 0)), (2, .ref (τ 0))]) hx hb dL_law_1442 hl (k := 3) rfl (show zI i + zI 5 = _ by rw [zI_add]; rfl) (by decide) rfl (fun ls hl => ?_)
      refine lv_goto (tgt := 18) hx hb dL_law_1445 (by decide) ?_
      exact ih (i + 5) σ' hA' hM' (by omega) hi5 K' I' J' H locs hI hS ls (lv_sub hl [1, 2, 3, 0] rfl)
end sw_law3
/-- the cells of both worlds, apart -/
theorem lw_len {w : sw_W} {X : sw_X} {h : sw_H} : (sw_ws w X h).length = w.1 := by simp [sw_ws]
theorem lw_fixD {X : sw_X} {τ : Nat → Nat} {hA hM : sw_H} {A : Nat → Prop} (D : va_D A (sw_ws wA X hA ++ sw_ws wM (xU X τ) hM)) : sw_inj wA X ∧ sw_inj wM (xU X τ) ∧ (∀ a, a < 76 → A (X.2.2.2 a)) ∧ (∀ a, a < 24 → A (τ a)) ∧ ∀ a a', a < 76 → a' < 24 → X.2.2.2 a ≠ τ a' := by
  have l1 : (sw_ws wA X hA).length = 76 := lw_len
  have atA : ∀ a, a < 76 → (sw_ws wA X hA ++ sw_ws wM (xU X τ) hM)[a]? = some (X.2.2.2 a, sw_e wA X hA a) := fun a ha => by
    rw [List.getElem?_append_left (by omega)]; exact sw_at (w := wA) ha
  have atM : ∀ a, a < 24 → (sw_ws wA X hA ++ sw_ws wM (xU X τ) hM)[76 + a]? = some (τ a, sw_e wM (xU X τ) hM a) := fun a ha => by
    rw [List.getElem?_append_right (by omega), l1, show 76 + a - 76 = a by omega]; exact sw_at (w := wM) (X := xU X τ) ha
  refine ⟨fun a a' ha ha' he => D.1 a a' _ _ (atA a ha) (atA a' ha') he, fun a a' ha ha' he => ?_, fun a ha => D.2 a _ (atA a ha), fun a ha => D.2 _ _ (atM a ha), fun a a' ha ha' he => ?_⟩
  · have := D.1 (76 + a) (76 + a') _ _ (atM a ha) (atM a' ha') he
    omega
  · have := D.1 a (76 + a') _ _ (atA a ha) (atM a' ha') he
    omega
theorem lw_goodI {y2 : sw_M} (hc : Cond.code y2.1 y2.2.1 y2.2.2.1 y2.2.2.2 ∈ sw_big) : GoodIn lw_tbl (sw_mw y2) := by
  intro u hu
  rcases List.mem_cons.mp hu with rfl | hu
  · exact lw_good hc
  · exact lw_good hu
/-- the classes' own numbers, the arrays' -/
theorem lw_cls {s : State} {A : Array Value} (hts : ∀ w ∈ lw_tbl, w.before A s = true) : ∃ (dC : Nat → ClassId) (dI : Nat → Nat → Nat), ∀ (k : Nat) (q : vw_C), sw_cl[k]? = some q → u_Kn s q.1 q.2.1 q.2.2 (dC k) (dI k) := by
  have up : ∀ {u : Cond}, u ∈ sw_big → u ∈ lw_tbl := fun h => (List.mem_filter.mp h).1
  have h : ∀ k : Nat, ∃ z : ClassId × (Nat → Nat), ∀ q : vw_C, sw_cl[k]? = some q → u_Kn s q.1 q.2.1 q.2.2 z.1 z.2 := by
    intro k
    match k with
    | 0 => obtain ⟨cC, iS, hh⟩ := u_known hts (fun w hw => up (cf_0.2.2.1 w hw)) (hts _ (up kt_0)); exact ⟨(cC, iS), fun q hq => by cases hq; exact hh⟩
    | 1 => obtain ⟨cC, iS, hh⟩ := u_known hts (fun w hw => up (cf_1.2.2.1 w hw)) (hts _ (up kt_1)); exact ⟨(cC, iS), fun q hq => by cases hq; exact hh⟩
    | 2 => obtain ⟨cC, iS, hh⟩ := u_known hts (fun w hw => up (cf_2.2.2.1 w hw)) (hts _ (up kt_2)); exact ⟨(cC, iS), fun q hq => by cases hq; exact hh⟩
    | 3 => obtain ⟨cC, iS, hh⟩ := u_known hts (fun w hw => up (cf_3.2.2.1 w hw)) (hts _ (up kt_3)); exact ⟨(cC, iS), fun q hq => by cases hq; exact hh⟩
    | 4 => obtain ⟨cC, iS, hh⟩ := u_known hts (fun w hw => up (cf_4.2.2.1 w hw)) (hts _ (up kt_4)); exact ⟨(cC, iS), fun q hq => by cases hq; exact hh⟩
    | 5 => obtain ⟨cC, iS, hh⟩ := u_known hts (fun w hw => up (cf_5.2.2.1 w hw)) (hts _ (up kt_5)); exact ⟨(cC, iS), fun q hq => by cases hq; exact hh⟩
    | 6 => obtain ⟨cC, iS, hh⟩ := u_known hts (fun w hw => up (cf_6.2.2.1 w hw)) (hts _ (up kt_6)); exact ⟨(cC, iS), fun q hq => by cases hq; exact hh⟩
    | 7 => obtain ⟨cC, iS, hh⟩ := u_known hts (fun w hw => up (cf_7.2.2.1 w hw)) (hts _ (up kt_7)); exact ⟨(cC, iS), fun q hq => by cases hq; exact hh⟩
    | 8 => obtain ⟨cC, iS, hh⟩ := u_known hts (fun w hw => up (cf_8.2.2.1 w hw)) (hts _ (up kt_8)); exact ⟨(cC, iS), fun q hq => by cases hq; exact hh⟩
    | 9 => obtain ⟨cC, iS, hh⟩ := u_known hts (fun w hw => up (cf_9.2.2.1 w hw)) (hts _ (up kt_9)); exact ⟨(cC, iS), fun q hq => by cases hq; exact hh⟩
    | 10 => obtain ⟨cC, iS, hh⟩ := u_known hts (fun w hw => up (cf_10.2.2.1 w hw)) (hts _ (up kt_10)); exact ⟨(cC, iS), fun q hq => by cases hq; exact hh⟩
    | 11 => obtain ⟨cC, iS, hh⟩ := u_known hts (fun w hw => up (cf_11.2.2.1 w hw)) (hts _ (up kt_11)); exact ⟨(cC, iS), fun q hq => by cases hq; exact hh⟩
    | 12 => obtain ⟨cC, iS, hh⟩ := u_known hts (fun w hw => up (cf_12.2.2.1 w hw)) (hts _ (up kt_12)); exact ⟨(cC, iS), fun q hq => by cases hq; exact hh⟩
    | k + 13 => exact ⟨(0, fun _ => 0), fun q hq => absurd hq (by simp [sw_cl])⟩
  exact ⟨fun k => (Classical.choose (h k)).1, fun k => (Classical.choose (h k)).2, fun k q hq => Classical.choose_spec (h k) q hq⟩
theorem lw_prim {s : State} {A : Array Value} {ty : FieldType} (h : (Cond.arrayClass ty).before A s = true) : ∃ cA, ArrOfT s cA ty ∧ s.vm.findClass ("[" ++ ty.toString) = some cA := by
  obtain ⟨c, k, comp, h1, h2, h3⟩ := Cond.arrayClass_spec h
  exact ⟨c, fun n z => ⟨fun k h => (by cases h), k, h2, comp, h3⟩, h1⟩
theorem lw_objA {s : State} {A : Array Value} {C : String} (h : (Cond.arrayOver (.object C)).before A s = true) : ∃ cA, ArrOfT s cA (.object C) ∧ va_RA s cA (.object C) := by
  obtain ⟨comp, c, k, h1, -, h3, h4, h5⟩ := Cond.arrayOver_spec h
  exact ⟨c, fun n z => ⟨fun k h => (by cases h), k, h3, comp, h4⟩, k, comp, h3, h4, h1, h5⟩
theorem lw_arrA {s : State} {ty : FieldType} (h : cn_AO ty s) : ∃ cA, ArrOfT s cA (.array ty) ∧ s.vm.findClass ("[" ++ (FieldType.array ty).toString) = some cA := by
  obtain ⟨comp, c, k, h1, h3, h4, h5⟩ := h
  exact ⟨c, fun n z => ⟨fun k h => (by cases h), k, h3, comp, h4⟩, h5⟩
theorem lw_arr {s : State} {A : Array Value} (hts : ∀ w ∈ lw_tbl, w.before A s = true) : ∃ cA : Nat → ClassId, ∀ (dC : Nat → ClassId) (dI : Nat → Nat → Nat) (u : Nat → Nat) (k : Nat) (q : ClassId × FieldType), (sw_ts (dC, dI, cA, u))[k]? = some q → ArrOfT s q.1 q.2 ∧ va_RA s q.1 q.2 := by
  have up : ∀ {u : Cond}, u ∈ sw_big → u ∈ lw_tbl := fun h => (List.mem_filter.mp h).1
  obtain ⟨c0, a0, b0⟩ := lw_prim (hts _ (up ka_int))
  obtain ⟨c1, a1, b1⟩ := lw_prim (hts _ (up ka_long))
  obtain ⟨c2, a2, b2⟩ := lw_prim (hts _ (up ka_boolean))
  obtain ⟨c3, a3, b3⟩ := lw_objA (hts _ kq_10)
  obtain ⟨c4, a4, b4⟩ := lw_objA (hts _ kq_5)
  obtain ⟨c5, a5, b5⟩ := lw_arrA (cn_AO.of (hts _ kq_int))
  obtain ⟨c6, a6, b6⟩ := lw_arrA (cn_AO.of (hts _ kq_long))
  refine ⟨fun t => match t with | 0 => c0 | 1 => c1 | 2 => c2 | 3 => c3 | 4 => c4 | 5 => c5 | _ => c6, fun dC dI u k q hq => ?_⟩
  match k, hq with
  | 0, hq => cases hq; exact ⟨a0, b0⟩
  | 1, hq => cases hq; exact ⟨a1, b1⟩
  | 2, hq => cases hq; exact ⟨a2, b2⟩
  | 3, hq => cases hq; exact ⟨a3, b3⟩
  | 4, hq => cases hq; exact ⟨a4, b4⟩
  | 5, hq => cases hq; exact ⟨a5, b5⟩
  | 6, hq => cases hq; exact ⟨a6, b6⟩
  | k + 7, hq => exact absurd hq (by simp [sw_ts])
theorem lw_nest {s : State} {A : Array Value} (hts : ∀ w ∈ lw_tbl, w.before A s = true) : ∀ q ∈ cn_nest, va_Nw (.methodLinkNest q.1 q.2.1 q.2.2.1 q.2.2.2) s := by
  intro q hq
  simp only [cn_nest, sw_nest, List.cons_append, List.nil_append, List.mem_cons, List.not_mem_nil, or_false] at hq
  rcases hq with rfl | rfl | rfl | rfl | rfl | rfl | rfl | rfl | rfl | rfl | rfl | rfl | rfl
  · exact va_Nw.of rfl (hts _ kw_RX3_11)
  · exact va_Nw.of rfl (hts _ kw_RX3_26)
  · exact va_Nw.of rfl (hts _ kw_RX3_31)
  · exact va_Nw.of rfl (hts _ kw_RX11_23)
  · exact va_Nw.of rfl (hts _ kw_RX0_27)
  · exact va_Nw.of rfl (hts _ kw_RX8_22)
  · exact va_Nw.of rfl (hts _ kw_RX11_37)
  · exact va_Nw.of rfl (hts _ kw_RX11_44)
  · exact va_Nw.of rfl (hts _ kw_RX11_51)
  · exact va_Nw.of rfl (hts _ kw_RX11_70)
  · exact va_Nw.of rfl (hts _ kw_RX6_11)
  · exact va_Nw.of rfl (hts _ kw_RX1_26)
  · exact va_Nw.of rfl (hts _ kw_RX10_66)
/-- a constructor's call in the law -/
theorem lw_ctor {p : Program} {l : Launch} {e : Env} {s : State} {m : MethodId} {below : List Frame} {meth : Method} {c : Code} {b L : Nat} {xs : Nat → Int32} (C0 : lw_At p s m meth c b L xs) {X : sw_X} (hK : cn_K X s) {y2 : sw_M} {d idx ci q k n mc2 ms2 pc : Nat} {fs0 : List Value} {wF : (Nat → Nat) → va_W} {ws : va_W} {H : Heap} {locs : List Loc} {ls : Array Slot} {st : List Value} {Q : State → Prop}
    (hlk : Cond.methodLink RL idx y2.1 ∈ sw_big) (hini : Cond.initialized y2.1.cls ∈ sw_big) (hinst : Cond.instanceMethod y2.1 ∈ sw_big) (hcode : Cond.code y2.1 y2.2.1 y2.2.2.1 none ∈ sw_big) (hr2 : y2.2.2.2 = none) (hin : y2.1.name = "<init>") (hds : y2.1.cls ≠ "java/lang/invoke/MethodHandle" ∧ y2.1.cls ≠ "java/lang/invoke/VarHandle" ∧ (parseMethodDescriptor y2.1.desc).map (fun d => d.parameters.length) = some 0) (hmx : y2.2.2.1 ≤ 21)
    (C : cn_ct X l d y2 [.ref q] [(q, .inr (ci, fs0))] wF q mc2 ms2) (hdd : d ≤ 100) (hls : ls.size = 4) (hw : (st.map fun v => v.category).sum ≤ 8) (hd : decode cL_law pc = .ok (.invokespecial idx, 3)) (hk : k + mc2 ≤ 600000) (hm : n + ms2 ≤ 7302250)
    (hP : va_P (X.1, X.2.1) sw_cl (ws ++ [(q, .inr (ci, fs0))]) H) (hD : va_D (fun q => s.heap.size ≤ q) (ws ++ [(q, .inr (ci, fs0))])) (hS : va_S (fun q => s.heap.size ≤ q) s.heap H locs)
    (kk : ∀ (u : Nat → Nat) (H1 : Heap) (locs1 : List Loc), u 0 = q → va_P (X.1, X.2.1) sw_cl (ws ++ wF u) H1 → va_D (fun q => s.heap.size ≤ q) (ws ++ wF u) → va_S (fun q => s.heap.size ≤ q) s.heap H1 locs1 → W p l e room_1 s m #[Value.ref b] below meth c H1 locs1 (k + mc2) (n + ms2) Q (F0 m (pc + 3) ls st)) : W p l e room_1 s m #[Value.ref b] below meth c H locs k n Q (F0 m pc ls (.ref q :: st)) := by
  obtain ⟨hx, hb, hr, hml, hown, hts, hX, hbl, hlocks, hgv⟩ := C0
  have up : ∀ {u : Cond}, u ∈ sw_big → u ∈ lw_tbl := fun h => (List.mem_filter.mp h).1
  have lastq : (ws ++ [(q, (.inr (ci, fs0) : va_E))])[ws.length]? = some (q, .inr (ci, fs0)) := by rw [List.getElem?_append_right (Nat.le_refl _), Nat.sub_self]; rfl
  have one : ∀ {i : Nat} {r : Nat × va_E}, [(q, (.inr (ci, fs0) : va_E))][i]? = some r → i = 0 ∧ r = (q, .inr (ci, fs0)) := fun {i r} h => by
    have hi : i = 0 := by
      have := (List.getElem?_eq_some_iff.mp h).1
      simpa using this
    subst hi
    cases h
    exact ⟨rfl, rfl⟩
  have hPq : va_P (X.1, X.2.1) sw_cl [(q, .inr (ci, fs0))] H := fun i z h => by
    obtain ⟨-, rfl⟩ := one h
    exact hP _ _ lastq
  have hDq : va_D (fun _ => True) [(q, (.inr (ci, fs0) : va_E))] := ⟨fun i j a b ha hb _ => by
    rw [(one ha).1, (one hb).1], fun _ _ _ => trivial⟩
  have hF : ∀ z, va_A [(q, (.inr (ci, fs0) : va_E))] H.size z → s.heap.size ≤ z := by
    intro z h
    rcases h with ⟨k2, e2, h9⟩ | h9
    · have e9 := (one h9).2
      rw [Prod.mk.injEq] at e9
      rw [e9.1]
      exact hD.2 _ _ lastq
    · exact Nat.le_trans hS.1 h9
  have hp : PreS s H (va_Pc [.ref q] (cn_in X H.size [(q, .inr (ci, fs0))])) [.ref q] := ⟨cn_blind, fun U hU hW => ⟨rfl, by rw [hU], by rw [hU]; exact hPq, cn_K.warm hW hK, hDq⟩⟩
  have hrun : va_Run p l e room_1 s m #[Value.ref b] below meth c H locs k n mc2 ms2 (F0 m pc ls (.ref q :: st)) st (cn_q X H.size [(q, .inr (ci, fs0))] wF q [Value.ref q].toArray) (va_A [(q, .inr (ci, fs0))] H.size) :=
    va_runI (As := []) (rest := st) ⟨hx, hb, hml, hown, hts⟩ (C H.size) (cwI (bytes := y2.2.1) (maxL := y2.2.2.1) 0 hts (lw_goodI (by rw [hr2]; exact hcode)) (by unfold sw_mw; rw [hr2]) rfl rfl (hts _ (up hini)) (hts _ (up hlk)) (hts _ (up hinst)) hin hds ⟨by show d + 1 ≤ 2048; omega, by show 8 + (y2.2.2.1 + 11) + d * 40 ≤ 84000; omega⟩) hp rfl rfl hls rfl (lv_room hw) hd ⟨hk, hm⟩
  refine va_callv hrun hS (fun z _ h => hF z h) hF (fun u t H1 locs1 ht hvm hu hB hz1 hk1 hS1 => ?_)
  obtain ⟨hP1, hD1⟩ := hB
  rw [ht] at hP1
  obtain ⟨hP2, hD2⟩ := cn_join hP hD hk1 hF hP1 hD1
  exact kk u H1 locs1 hu hP2 hD2 hS1
/-- THE LAW, from its entry -/
theorem whole_start {p : Program} {e : Env} {s : State} {m : MethodId} {below : List Frame} {meth : Method} {c : Code} (l : Launch) (hflags : l.flags = flags0) {b L : Nat} {xs : Nat → Int32} (hL : L ≤ 2560) (C0 : lw_At p s m meth c b L xs) : W p l e room_1 s m #[Value.ref b] below meth c s.heap [] 0 0 (lw_Z below #[Value.ref b] s) (entryFrame m ([Value.ref b] : List Value).toArray 4) := by
  obtain ⟨hx, hb, hr, hml, hown, hts, hX, hbl, hlocks, hgv⟩ := id C0
  have up : ∀ {u : Cond}, u ∈ sw_big → u ∈ lw_tbl := fun h => (List.mem_filter.mp h).1
  have hA : ∀ q : Nat, s.heap.size ≤ q → (fun q : Nat => s.heap.size ≤ q) q := fun _ h => h
  obtain ⟨dC, dI, hKc⟩ := lw_cls hts
  obtain ⟨cA, hKa⟩ := lw_arr hts
  obtain ⟨X, hXe⟩ : ∃ X : sw_X, X = (dC, dI, cA, fun _ => 0) := ⟨_, rfl⟩
  have hK : cn_K X s := by
    subst hXe
    exact ⟨⟨hKc, fun k q hq => hKa dC dI _ k q hq⟩, ⟨va_AO.of (hts _ kq_10), va_AO.of (hts _ kq_5)⟩, ⟨cn_AO.of (hts _ kq_int), cn_AO.of (hts _ kq_long)⟩, lw_nest hts⟩
  clear hXe hKc hKa
  have hS : va_S (fun q : Nat => s.heap.size ≤ q) s.heap s.heap [] := va_S.rf
  have hP : va_P (X.1, X.2.1) sw_cl [] s.heap := fun k q h => by simp at h
  have hD : va_D (fun q : Nat => s.heap.size ≤ q) [] := ⟨fun i j p q h => by simp at h, fun k q h => by simp at h⟩
  have hl := lv_entry ([.ref b]) (n := 4) (Nat.le_of_ble_eq_true rfl)
  rw [lg_entry_eq]
  generalize (lg_sl ([.ref b]) ++ List.replicate (4 - (lg_sl ([.ref b])).length) Slot.unset).toArray = ls at hl ⊢
  have hl : lv_has ls 4 [(0, .ref b)] := hl
  refine va_new (ci := 11) (fs := [.null, .null, .null, .null, .null, .null, .null, .null, .null, .null, .null, .int 0, .int 0, .int 0, .int 0]) (C := RX11) (T := TX11) (N := 15) hx hb hts (fun u hu => up (cf_11.2.2.1 u hu)) (sw_ty 11) cf_11.2.2.2.1 hown (hts _ (up kC_RL_7)) (hts _ (up kt_11)) (hts _ (up kn_RX11)) hK.1 hP hD hS hA rfl (fun j hj => by rcases (show j = 0 ∨ j = 1 ∨ j = 2 ∨ j = 3 ∨ j = 4 ∨ j = 5 ∨ j = 6 ∨ j = 7 ∨ j = 8 ∨ j = 9 ∨ j = 10 ∨ j = 11 ∨ j = 12 ∨ j = 13 ∨ j = 14 by omega) with rfl | rfl | rfl | rfl | rfl | rfl | rfl | rfl | rfl | rfl | rfl | rfl | rfl | rfl | rfl <;> rfl) (Nat.le_of_ble_eq_true rfl) (Nat.le_of_ble_eq_true rfl) dL_law_0 (fun q0 H hP hD hS => ?_)
  refine lv_dup hx hb dL_law_3 rfl ?_
  refine lw_ctor C0 hK (y2 := mX11_init) (ws := []) kI_RL_9 kn_RX11 ki_X11_init kc_X11_init rfl rfl ⟨by decide +kernel, by decide +kernel, by decide +kernel⟩ (by decide) (kX11 (d := 0) q0) (by decide) hl.1 (Nat.le_of_ble_eq_true rfl) dL_law_4 (Nat.le_of_ble_eq_true rfl) (Nat.le_of_ble_eq_true rfl) hP hD hS (fun u H2 locs2 hu hP2 hD2 hS2 => ?_)
  subst hu
  refine lv_astore_n (lv' := [(1, .ref (u 0)), (0, .ref b)]) hx hb dL_law_7 rfl hl (by decide) rfl (fun ls hl => ?_)
  refine va_new (ci := 12) (fs := [.int 0, .null, .null, .null, .null, .int 0, .null, .null, .int 0, .null, .null, .null, .null, .null, .int 0, .int 0, .int 0, .null, .null, .int 0, .null, .null, .null, .null, .null, .int 0, .null, .null, .null, .int 0, .null, .int 0, .int 0, .null]) (C := RX12) (T := TX12) (N := 34) hx hb hts (fun u hu => up (cf_12.2.2.1 u hu)) (sw_ty 12) cf_12.2.2.2.1 hown (hts _ (up kC_RL_10)) (hts _ (up kt_12)) (hts _ (up kn_RX12)) hK.1 hP2 hD2 hS2 hA rfl (fun j hj => by rcases (show j = 0 ∨ j = 1 ∨ j = 2 ∨ j = 3 ∨ j = 4 ∨ j = 5 ∨ j = 6 ∨ j = 7 ∨ j = 8 ∨ j = 9 ∨ j = 10 ∨ j = 11 ∨ j = 12 ∨ j = 13 ∨ j = 14 ∨ j = 15 ∨ j = 16 ∨ j = 17 ∨ j = 18 ∨ j = 19 ∨ j = 20 ∨ j = 21 ∨ j = 22 ∨ j = 23 ∨ j = 24 ∨ j = 25 ∨ j = 26 ∨ j = 27 ∨ j = 28 ∨ j = 29 ∨ j = 30 ∨ j = 31 ∨ j = 32 ∨ j = 33 by omega) with rfl | rfl | rfl | rfl | rfl | rfl | rfl | rfl | rfl | rfl | rfl | rfl | rfl | rfl | rfl | rfl | rfl | rfl | rfl | rfl | rfl | rfl | rfl | rfl | rfl | rfl | rfl | rfl | rfl | rfl | rfl | rfl | rfl | rfl <;> rfl) (Nat.le_of_ble_eq_true rfl) (Nat.le_of_ble_eq_true rfl) dL_law_8 (fun q1 H4 hP4 hD4 hS4 => ?_)
  refine lv_dup hx hb dL_law_11 rfl ?_
  refine lw_ctor C0 hK (y2 := mX12_init) kI_RL_12 kn_RX12 ki_X12_init kc_X12_init rfl rfl ⟨by decide +kernel, by decide +kernel, by decide +kernel⟩ (by decide) (kX12 (d := 0) q1) (by decide) hl.1 (Nat.le_of_ble_eq_true rfl) dL_law_12 (Nat.le_of_ble_eq_true rfl) (Nat.le_of_ble_eq_true rfl) hP4 hD4 hS4 (fun v H3 locs3 hv hP3 hD3 hS3 => ?_)
  subst hv
  refine lv_astore_n (lv' := [(2, .ref (v 0)), (1, .ref (u 0)), (0, .ref b)]) hx hb dL_law_15 rfl hl (by decide) rfl (fun ls hl => ?_)
  refine lv_iconst (v := zI ((0 : Nat) : Int)) hx hb dL_law_16 (by decide) ?_
  refine lv_istore_n (lv' := [(3, .int (zI ((0 : Nat) : Int))), (2, .ref (v 0)), (1, .ref (u 0)), (0, .ref b)]) hx hb dL_law_17 rfl hl (by decide) rfl (fun ls hl => ?_)
  have hPf : va_P (X.1, X.2.1) sw_cl (sw_ws wA (xU X u) h0A ++ sw_ws wM (xU (xU X u) v) h0M) H3 := hP3
  have hDf : va_D (fun q : Nat => s.heap.size ≤ q) (sw_ws wA (xU X u) h0A ++ sw_ws wM (xU (xU X u) v) h0M) := hD3
  obtain ⟨i1, i2, i3, i4, i5⟩ := lw_fixD hDf
  have F : lw_fix (xU X u) v s := ⟨cn_K.sw hK, i1, i2, i3, i4, i5⟩
  have l1 : (sw_ws wA (xU X u) h0A).length = 76 := lw_len
  refine lw_loop C0 hL F ⟨(Nat.le_of_ble_eq_true rfl), (Nat.le_of_ble_eq_true rfl)⟩ (L + 1) 0 σ0 h0A h0M (by omega) (Nat.zero_le _) ok_0 IA_0 IM_0 H3 locs3 ⟨fun i q h => hPf i q ?_, fun i q h => hPf (76 + i) q ?_⟩ hS3 ls (lv_sub hl [3, 2, 1, 0] rfl)
  · rw [List.getElem?_append_left ((List.getElem?_eq_some_iff.mp h).1)]; exact h
  · rw [List.getElem?_append_right (by omega), l1, show 76 + i - 76 = i by omega]; exact h
