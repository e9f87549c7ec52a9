/-! THE REFERENCE, 13: an answer comes to its place -/
/-- row i of the table: the fraction, its sign and powers -/
def rowT (g : sw_H) (n : Nat) (p : Nat → Int) (i : Nat) (a b : Int) : Prop := g.2 14 i = zL a ∧ g.2 15 i = zL b ∧ g.1 17 i = zI (frS a) ∧ ∀ k, k < n → g.1 16 (4 * i + k) = zI (frU n p a b k)
def tbM (h : sw_H) (n : Nat) (p : Nat → Int) (T : TbZ) : Prop := h.1 0 19 = zI T.1 ∧ okT T ∧ ∀ i, i < T.1 → rowT h n p i (T.2.1 i) (T.2.2.1 i)
theorem rowT_fr {L F : List Nat} {h h2 : sw_H} {n i : Nat} {p : Nat → Int} {a b : Int} (V : rowT h n p i a b) (A : frM L F h h2) (hL : ∀ x ∈ [14, 15, 16, 17], x ∉ L) : rowT h2 n p i a b := by
  obtain ⟨v1, v2, v3, v4⟩ := V
  exact ⟨by rw [A.2.1 14 (hL 14 (by decide))]; exact v1, by rw [A.2.1 15 (hL 15 (by decide))]; exact v2, by rw [A.1 17 (by decide) (hL 17 (by decide))]; exact v3, fun k hk => by rw [A.1 16 (by decide) (hL 16 (by decide))]; exact v4 k hk⟩
theorem tbM_fr {L F : List Nat} {h h2 : sw_H} {n : Nat} {p : Nat → Int} {T : TbZ} (V : tbM h n p T) (A : frM L F h h2) (hL : ∀ x ∈ [14, 15, 16, 17], x ∉ L) (hF : 19 ∉ F) : tbM h2 n p T :=
  ⟨by rw [A.2.2 19 hF]; exact V.1, V.2.1, fun i hi => rowT_fr (V.2.2 i hi) A hL⟩
section sw_m13
variable {X : sw_X} {l : Launch} {d : Nat} {h : sw_H} {n : Nat} {p bx : Nat → Int} {T : TbZ}
def shP (j k : Nat) (G : Nat → Int32) (x : Nat) : Int32 := if 4 * j ≤ x ∧ x < 4 * j + k then G (x - 4) else G x
def laP (j k : Nat) (e : Nat → Int) (G : Nat → Int32) (x : Nat) : Int32 := if 4 * j ≤ x ∧ x < 4 * j + k then zI (e (x - 4 * j)) else G x
theorem answer_move {Qc : sw_Q} {a b : Int64} {j : Nat} {g : sw_H} (V : g.1 0 0 = zI n) (hn : n ≤ 4) (hj : j < 264)
    (kont : ∀ g2 : sw_H, frM [14, 15, 16, 17] [] g g2 → g2.2 14 = va_up (g.2 14) (j + 1) (g.2 14 j) → g2.2 15 = va_up (g.2 15) (j + 1) (g.2 15 j) → g2.1 17 = va_up (g.1 17) (j + 1) (g.1 17 j) → g2.1 16 = shP (j + 1) n (g.1 16) → sw_wp wM X l d mX12_answerComes Qc 28 [(0, .ref 0), (1, .long a), (3, .long b), (5, .int (zI j))] [] g2) :
    sw_wp wM X l d mX12_answerComes Qc 75 [(0, .ref 0), (1, .long a), (3, .long b), (5, .int (zI ((j + 1 : Nat) : Int)))] [] g := by
  have hin1 := zI_inN (a := j + 1) (n := 800) (by omega) (by decide)
  have hin0 := zI_inN (a := j) (n := 800) (by omega) (by decide)
  have e1 : zI ((j + 1 : Nat) : Int) - zI 1 = zI j := by rw [zI_sub]; congr 1; omega
  have loop : ∀ (g1 : sw_H), frM [14, 15, 16, 17] [] g g1 → g1.2 14 = va_up (g.2 14) (j + 1) (g.2 14 j) → g1.2 15 = va_up (g.2 15) (j + 1) (g.2 15 j) → g1.1 17 = va_up (g.1 17) (j + 1) (g.1 17 j) → ∀ (c k : Nat), k + c = n → sw_wp wM X l d mX12_answerComes Qc 126 [(0, .ref 0), (1, .long a), (3, .long b), (5, .int (zI ((j + 1 : Nat) : Int))), (6, .int (zI k))] [] (sw_pI g1 16 (shP (j + 1) k (g.1 16))) := by
    intro g1 A a14 a15 a17 c
    have V1 : ∀ F, (sw_pI g1 16 F).1 0 0 = zI n := fun F => by rw [sw_pI_ne (by decide), A.2.2 0 (by decide)]; exact V
    induction c with
    | zero =>
      intro k hk
      have : k = n := by omega
      subst this
      refine sw_iload 128 dX12_answerComes_126 rfl rfl ?_
      refine sw_aload_n 129 dX12_answerComes_128 rfl rfl rfl ?_
      refine sw_getI 132 dX12_answerComes_129 rfl gf_RX12_83 rfl ⟨by decide, rfl⟩ ?_
      rw [V1]
      refine sw_icmp_ge 167 135 dX12_answerComes_132 (by decide) rfl (fun c132 => ?_) (fun c132 => ?_)
      · refine sw_iinc (v := zI (-1)) (lc' := [(0, _), (1, _), (3, _), (5, _), (6, _)]) 170 dX12_answerComes_167 rfl (by decide) rfl rfl rfl ?_
        refine sw_goto 28 dX12_answerComes_170 (by decide) ?_
        rw [zI_add, show ((j + 1 : Nat) : Int) + (-1) = j by omega]
        exact sw_wp_sub (by simp) (kont _ (frM_tr A (frM_pI (by decide) (by decide))) a14 a15 (by rw [sw_pI_ne (by decide)]; exact a17) (by rw [sw_pI_at]))
      · exact absurd (Int32.le_refl _) c132
    | succ c ih =>
      intro k hk
      have e2 : zI 4 * zI ((j + 1 : Nat) : Int) + zI k = zI ((4 * (j + 1) + k : Nat) : Int) := by rw [zI_mul, zI_add]; congr 1
      have e3 : zI 4 * zI j + zI k = zI ((4 * j + k : Nat) : Int) := by rw [zI_mul, zI_add]; congr 1
      have hin2 := zI_inN (a := 4 * (j + 1) + k) (n := 3200) (by omega) (by decide)
      have hin3 := zI_inN (a := 4 * j + k) (n := 3200) (by omega) (by decide)
      refine sw_iload 128 dX12_answerComes_126 rfl rfl ?_
      refine sw_aload_n 129 dX12_answerComes_128 rfl rfl rfl ?_
      refine sw_getI 132 dX12_answerComes_129 rfl gf_RX12_83 rfl ⟨by decide, rfl⟩ ?_
      rw [V1]
      refine sw_icmp_ge 167 135 dX12_answerComes_132 (by decide) rfl (fun c132 => ?_) (fun c132 => ?_)
      · exact absurd c132 (by rw [zI_le (by omega) (by omega) (by omega) (by omega)]; omega)
      · refine sw_aload_n 136 dX12_answerComes_135 rfl rfl rfl ?_
        refine sw_getR (b := 16) 139 dX12_answerComes_136 rfl gf_RX12_58 (fun _ _ _ _ => rfl) ⟨by decide, rfl⟩ rfl ?_
        refine sw_iconst (v := zI 4) 140 dX12_answerComes_139 rfl (by decide) ?_
        refine sw_iload 142 dX12_answerComes_140 rfl rfl ?_
        refine sw_imul 143 dX12_answerComes_142 rfl ?_
        refine sw_iload 145 dX12_answerComes_143 rfl rfl ?_
        refine sw_iadd 146 dX12_answerComes_145 rfl ?_
        rw [e2]
        refine sw_aload_n 147 dX12_answerComes_146 rfl rfl rfl ?_
        refine sw_getR (b := 16) 150 dX12_answerComes_147 rfl gf_RX12_58 (fun _ _ _ _ => rfl) ⟨by decide, rfl⟩ rfl ?_
        refine sw_iconst (v := zI 4) 151 dX12_answerComes_150 rfl (by decide) ?_
        refine sw_iload 153 dX12_answerComes_151 rfl rfl ?_
        refine sw_iconst (v := zI 1) 154 dX12_answerComes_153 rfl (by decide) ?_
        refine sw_isub 155 dX12_answerComes_154 rfl ?_
        rw [e1]
        refine sw_imul 156 dX12_answerComes_155 rfl ?_
        refine sw_iload 158 dX12_answerComes_156 rfl rfl ?_
        refine sw_iadd 159 dX12_answerComes_158 rfl ?_
        rw [e3]
        refine sw_iald 160 dX12_answerComes_159 rfl ⟨by decide, rfl⟩ (by assumption) ?_
        refine sw_iast 161 dX12_answerComes_160 rfl ⟨by decide, rfl⟩ (by assumption) ?_
        refine sw_iinc (v := zI 1) (lc' := [(0, _), (1, _), (3, _), (5, _), (6, _)]) 164 dX12_answerComes_161 rfl (by decide) rfl rfl rfl ?_
        refine sw_goto 126 dX12_answerComes_164 (by decide) ?_
        rw [zI_clampN (by omega), zI_clampN (by omega), sw_wI_pI, zI_add]
        have i9 := ih (k + 1) (by omega)
        have e9 : va_up (shP (j + 1) k (g.1 16)) (4 * (j + 1) + k) ((sw_pI g1 16 (shP (j + 1) k (g.1 16))).1 16 (4 * j + k)) = shP (j + 1) (k + 1) (g.1 16) := by
          rw [sw_pI_at]
          funext x
          unfold va_up shP
          by_cases ex : x = 4 * (j + 1) + k
          · rw [if_pos ex, if_neg (show ¬ (4 * (j + 1) ≤ 4 * j + k ∧ 4 * j + k < 4 * (j + 1) + k) by omega), if_pos (show 4 * (j + 1) ≤ x ∧ x < 4 * (j + 1) + (k + 1) by omega), show x - 4 = 4 * j + k by omega]
          · rw [if_neg ex]
            by_cases ey : 4 * (j + 1) ≤ x ∧ x < 4 * (j + 1) + k
            · rw [if_pos ey, if_pos (by omega)]
            · rw [if_neg ey, if_neg (by omega)]
        rw [e9]
        exact i9
  refine sw_aload_n 76 dX12_answerComes_75 rfl rfl rfl ?_
  refine sw_getR (b := 14) 79 dX12_answerComes_76 rfl gf_RX12_52 (fun _ _ _ _ => rfl) ⟨by decide, rfl⟩ rfl ?_
  refine sw_iload 81 dX12_answerComes_79 rfl rfl ?_
  refine sw_aload_n 82 dX12_answerComes_81 rfl rfl rfl ?_
  refine sw_getR (b := 14) 85 dX12_answerComes_82 rfl gf_RX12_52 (fun _ _ _ _ => rfl) ⟨by decide, rfl⟩ rfl ?_
  refine sw_iload 87 dX12_answerComes_85 rfl rfl ?_
  refine sw_iconst (v := zI 1) 88 dX12_answerComes_87 rfl (by decide) ?_
  refine sw_isub 89 dX12_answerComes_88 rfl ?_
  rw [e1]
  refine sw_lald 90 dX12_answerComes_89 rfl ⟨by decide, rfl⟩ (by assumption) ?_
  refine sw_last 91 dX12_answerComes_90 rfl ⟨by decide, rfl⟩ (by assumption) ?_
  refine sw_aload_n 92 dX12_answerComes_91 rfl rfl rfl ?_
  refine sw_getR (b := 15) 95 dX12_answerComes_92 rfl gf_RX12_55 (fun _ _ _ _ => rfl) ⟨by decide, rfl⟩ rfl ?_
  refine sw_iload 97 dX12_answerComes_95 rfl rfl ?_
  refine sw_aload_n 98 dX12_answerComes_97 rfl rfl rfl ?_
  refine sw_getR (b := 15) 101 dX12_answerComes_98 rfl gf_RX12_55 (fun _ _ _ _ => rfl) ⟨by decide, rfl⟩ rfl ?_
  refine sw_iload 103 dX12_answerComes_101 rfl rfl ?_
  refine sw_iconst (v := zI 1) 104 dX12_answerComes_103 rfl (by decide) ?_
  refine sw_isub 105 dX12_answerComes_104 rfl ?_
  rw [e1]
  refine sw_lald 106 dX12_answerComes_105 rfl ⟨by decide, rfl⟩ (by assumption) ?_
  refine sw_last 107 dX12_answerComes_106 rfl ⟨by decide, rfl⟩ (by assumption) ?_
  refine sw_aload_n 108 dX12_answerComes_107 rfl rfl rfl ?_
  refine sw_getR (b := 17) 111 dX12_answerComes_108 rfl gf_RX12_61 (fun _ _ _ _ => rfl) ⟨by decide, rfl⟩ rfl ?_
  refine sw_iload 113 dX12_answerComes_111 rfl rfl ?_
  refine sw_aload_n 114 dX12_answerComes_113 rfl rfl rfl ?_
  refine sw_getR (b := 17) 117 dX12_answerComes_114 rfl gf_RX12_61 (fun _ _ _ _ => rfl) ⟨by decide, rfl⟩ rfl ?_
  refine sw_iload 119 dX12_answerComes_117 rfl rfl ?_
  refine sw_iconst (v := zI 1) 120 dX12_answerComes_119 rfl (by decide) ?_
  refine sw_isub 121 dX12_answerComes_120 rfl ?_
  rw [e1]
  refine sw_iald 122 dX12_answerComes_121 rfl ⟨by decide, rfl⟩ (by assumption) ?_
  refine sw_iast 123 dX12_answerComes_122 rfl ⟨by decide, rfl⟩ (by assumption) ?_
  refine sw_iconst (v := zI 0) 124 dX12_answerComes_123 rfl (by decide) ?_
  refine sw_istore (lc' := [(0, _), (1, _), (3, _), (5, _), (6, _)]) 126 dX12_answerComes_124 rfl (by decide) rfl ?_
  have cj : (zI (j : Int)).toNatClampNeg = j := zI_clampN (by omega)
  have cj1 : (zI ((j + 1 : Nat) : Int)).toNatClampNeg = j + 1 := zI_clampN (by omega)
  have q15 : ∀ x, (sw_wL g 14 (j + 1) x).2 15 = g.2 15 := fun x => sw_wL_ne (by decide)
  simp only [cj, cj1, q15]
  have g9 := loop (sw_wI (sw_wL (sw_wL g 14 (j + 1) (g.2 14 j)) 15 (j + 1) (g.2 15 j)) 17 (j + 1) (g.1 17 j)) (frM_tr (frM_tr (frM_wL (by decide)) (frM_wL (by decide))) (frM_wI (by decide) (by decide))) (by show (sw_wL (sw_wL g 14 (j + 1) (g.2 14 j)) 15 (j + 1) (g.2 15 j)).2 14 = _; rw [sw_wL_ne (by decide), sw_wL_at]) (by show (sw_wL (sw_wL g 14 (j + 1) (g.2 14 j)) 15 (j + 1) (g.2 15 j)).2 15 = _; rw [sw_wL_at, sw_wL_ne (by decide)]) (by rw [sw_wI_at]; rfl) n 0 (by omega)
  have e9 : shP (j + 1) 0 (g.1 16) = (sw_wI (sw_wL (sw_wL g 14 (j + 1) (g.2 14 j)) 15 (j + 1) (g.2 15 j)) 17 (j + 1) (g.1 17 j)).1 16 := by
    rw [sw_wI_ne (by decide)]
    funext x
    unfold shP
    rw [if_neg (by omega)]
    rfl
  rw [e9, sw_pI_self rfl] at g9
  exact g9
theorem answer_lay {a b : Int} {sg : Int} {e : Nat → Int} {j N : Nat} {g : sw_H} {Post : sw_H → Prop} (V : g.1 0 0 = zI n) (hn : n ≤ 4) (hj : j ≤ 264) (hN : g.1 0 19 = zI N) (hN2 : N ≤ 264) (S : g.1 0 14 = zI sg) (R : rwM g 9 n e)
    (kont : ∀ g2 : sw_H, frM [14, 15, 16, 17] [19] g g2 → g2.2 14 = va_up (g.2 14) j (zL a) → g2.2 15 = va_up (g.2 15) j (zL b) → g2.1 17 = va_up (g.1 17) j (zI sg) → g2.1 16 = laP j n e (g.1 16) → g2.1 0 19 = zI ((N + 1 : Nat) : Int) → Post g2) :
    sw_wp wM X l d mX12_answerComes (sw_qV wM X Post) 173 [(0, .ref 0), (1, .long (zL a)), (3, .long (zL b)), (5, .int (zI j))] [] g := by
  have hin1 := zI_inN (a := j) (n := 800) (by omega) (by decide)
  have loop : ∀ (g1 : sw_H), frM [14, 15, 16, 17] [] g g1 → g1.2 14 = va_up (g.2 14) j (zL a) → g1.2 15 = va_up (g.2 15) j (zL b) → g1.1 17 = va_up (g.1 17) j (zI sg) → ∀ (c k : Nat), k + c = n → sw_wp wM X l d mX12_answerComes (sw_qV wM X Post) 203 [(0, .ref 0), (1, .long (zL a)), (3, .long (zL b)), (5, .int (zI j)), (6, .int (zI k))] [] (sw_pI g1 16 (laP j k e (g.1 16))) := by
    intro g1 A a14 a15 a17 c
    have V1 : ∀ F, (sw_pI g1 16 F).1 0 0 = zI n := fun F => by rw [sw_pI_ne (by decide), A.2.2 0 (by decide)]; exact V
    have N1 : ∀ F, (sw_pI g1 16 F).1 0 19 = zI N := fun F => by rw [sw_pI_ne (by decide), A.2.2 19 (by decide)]; exact hN
    induction c with
    | zero =>
      intro k hk
      have : k = n := by omega
      subst this
      refine sw_iload 205 dX12_answerComes_203 rfl rfl ?_
      refine sw_aload_n 206 dX12_answerComes_205 rfl rfl rfl ?_
      refine sw_getI 209 dX12_answerComes_206 rfl gf_RX12_83 rfl ⟨by decide, rfl⟩ ?_
      rw [V1]
      refine sw_icmp_ge 237 212 dX12_answerComes_209 (by decide) rfl (fun c209 => ?_) (fun c209 => ?_)
      · refine sw_aload_n 238 dX12_answerComes_237 rfl rfl rfl ?_
        refine sw_dup 239 dX12_answerComes_238 rfl rfl ?_
        refine sw_getI 242 dX12_answerComes_239 rfl gf_RX12_167 rfl ⟨by decide, rfl⟩ ?_
        refine sw_iconst (v := zI 1) 243 dX12_answerComes_242 rfl (by decide) ?_
        rw [N1]
        refine sw_iadd 244 dX12_answerComes_243 rfl ?_
        rw [zI_add]
        refine sw_putI 247 dX12_answerComes_244 rfl pf_RX12_167 rfl ⟨by decide, rfl⟩ ?_
        exact sw_vret dX12_answerComes_247 rfl (kont _ (frM_tr (frM_sub A (fun x hx => hx) (fun x hx => absurd hx List.not_mem_nil)) (frM_tr (frM_pI (by decide) (by decide)) (frM_w0 (by decide)))) a14 a15 (by rw [sw_wI_ne (by decide), sw_pI_ne (by decide)]; exact a17) (by rw [sw_wI_ne (by decide), sw_pI_at]) (by rw [sw_wI_at]; simp [va_up]))
      · exact absurd (Int32.le_refl _) c209
    | succ c ih =>
      intro k hk
      have e2 : zI 4 * zI j + zI k = zI ((4 * j + k : Nat) : Int) := by rw [zI_mul, zI_add]; congr 1
      have hin2 := zI_inN (a := 4 * j + k) (n := 3200) (by omega) (by decide)
      have hin3 := zI_inN (a := k) (n := 4) (by omega) (by decide)
      have e9 : (sw_pI g1 16 (laP j k e (g.1 16))).1 9 k = zI (e k) := by rw [sw_pI_ne (by decide), A.1 9 (by decide) (by decide)]; exact R k (by omega)
      refine sw_iload 205 dX12_answerComes_203 rfl rfl ?_
      refine sw_aload_n 206 dX12_answerComes_205 rfl rfl rfl ?_
      refine sw_getI 209 dX12_answerComes_206 rfl gf_RX12_83 rfl ⟨by decide, rfl⟩ ?_
      rw [V1]
      refine sw_icmp_ge 237 212 dX12_answerComes_209 (by decide) rfl (fun c209 => ?_) (fun c209 => ?_)
      · exact absurd c209 (by rw [zI_le (by omega) (by omega) (by omega) (by omega)]; omega)
      · refine sw_aload_n 213 dX12_answerComes_212 rfl rfl rfl ?_
        refine sw_getR (b := 16) 216 dX12_answerComes_213 rfl gf_RX12_58 (fun _ _ _ _ => rfl) ⟨by decide, rfl⟩ rfl ?_
        refine sw_iconst (v := zI 4) 217 dX12_answerComes_216 rfl (by decide) ?_
        refine sw_iload 219 dX12_answerComes_217 rfl rfl ?_
        refine sw_imul 220 dX12_answerComes_219 rfl ?_
        refine sw_iload 222 dX12_answerComes_220 rfl rfl ?_
        refine sw_iadd 223 dX12_answerComes_222 rfl ?_
        rw [e2]
        refine sw_aload_n 224 dX12_answerComes_223 rfl rfl rfl ?_
        refine sw_getR (b := 9) 227 dX12_answerComes_224 rfl gf_RX12_37 (fun _ _ _ _ => rfl) ⟨by decide, rfl⟩ rfl ?_
        refine sw_iload 229 dX12_answerComes_227 rfl rfl ?_
        refine sw_iald 230 dX12_answerComes_229 rfl ⟨by decide, rfl⟩ (by assumption) ?_
        refine sw_iast 231 dX12_answerComes_230 rfl ⟨by decide, rfl⟩ (by assumption) ?_
        refine sw_iinc (v := zI 1) (lc' := [(0, _), (1, _), (3, _), (5, _), (6, _)]) 234 dX12_answerComes_231 rfl (by decide) rfl rfl rfl ?_
        refine sw_goto 203 dX12_answerComes_234 (by decide) ?_
        rw [zI_clampN (by omega), zI_clampN (by omega), e9, sw_wI_pI, zI_add]
        have i9 := ih (k + 1) (by omega)
        have e9 : va_up (laP j k e (g.1 16)) (4 * j + k) (zI (e k)) = laP j (k + 1) e (g.1 16) := by
          funext x
          unfold va_up laP
          by_cases ex : x = 4 * j + k
          · rw [if_pos ex, if_pos (by omega), show x - 4 * j = k by omega]
          · rw [if_neg ex]
            by_cases ey : 4 * j ≤ x ∧ x < 4 * j + k
            · rw [if_pos ey, if_pos (by omega)]
            · rw [if_neg ey, if_neg (by omega)]
        rw [e9]
        exact i9
  refine sw_aload_n 174 dX12_answerComes_173 rfl rfl rfl ?_
  refine sw_getR (b := 14) 177 dX12_answerComes_174 rfl gf_RX12_52 (fun _ _ _ _ => rfl) ⟨by decide, rfl⟩ rfl ?_
  refine sw_iload 179 dX12_answerComes_177 rfl rfl ?_
  refine sw_lload_n 180 dX12_answerComes_179 rfl rfl rfl ?_
  refine sw_last 181 dX12_answerComes_180 rfl ⟨by decide, rfl⟩ (by assumption) ?_
  refine sw_aload_n 182 dX12_answerComes_181 rfl rfl rfl ?_
  refine sw_getR (b := 15) 185 dX12_answerComes_182 rfl gf_RX12_55 (fun _ _ _ _ => rfl) ⟨by decide, rfl⟩ rfl ?_
  refine sw_iload 187 dX12_answerComes_185 rfl rfl ?_
  refine sw_lload_n 188 dX12_answerComes_187 rfl rfl rfl ?_
  refine sw_last 189 dX12_answerComes_188 rfl ⟨by decide, rfl⟩ (by assumption) ?_
  refine sw_aload_n 190 dX12_answerComes_189 rfl rfl rfl ?_
  refine sw_getR (b := 17) 193 dX12_answerComes_190 rfl gf_RX12_61 (fun _ _ _ _ => rfl) ⟨by decide, rfl⟩ rfl ?_
  refine sw_iload 195 dX12_answerComes_193 rfl rfl ?_
  refine sw_aload_n 196 dX12_answerComes_195 rfl rfl rfl ?_
  refine sw_getI 199 dX12_answerComes_196 rfl gf_RX12_109 rfl ⟨by decide, rfl⟩ ?_
  rw [show (sw_wL (sw_wL g 14 (zI j).toNatClampNeg (zL a)) 15 (zI j).toNatClampNeg (zL b)).1 0 14 = zI sg from S]
  refine sw_iast 200 dX12_answerComes_199 rfl ⟨by decide, rfl⟩ (by assumption) ?_
  refine sw_iconst (v := zI 0) 201 dX12_answerComes_200 rfl (by decide) ?_
  refine sw_istore (lc' := [(0, _), (1, _), (3, _), (5, _), (6, _)]) 203 dX12_answerComes_201 rfl (by decide) rfl ?_
  have cj : (zI (j : Int)).toNatClampNeg = j := zI_clampN (by omega)
  simp only [cj]
  have g9 := loop (sw_wI (sw_wL (sw_wL g 14 j (zL a)) 15 j (zL b)) 17 j (zI sg)) (frM_tr (frM_tr (frM_wL (by decide)) (frM_wL (by decide))) (frM_wI (by decide) (by decide))) (by show (sw_wL (sw_wL g 14 j (zL a)) 15 j (zL b)).2 14 = _; rw [sw_wL_ne (by decide), sw_wL_at]) (by show (sw_wL (sw_wL g 14 j (zL a)) 15 j (zL b)).2 15 = _; rw [sw_wL_at, sw_wL_ne (by decide)]) (by rw [sw_wI_at]; rfl) n 0 (by omega)
  have e9 : laP j 0 e (g.1 16) = (sw_wI (sw_wL (sw_wL g 14 j (zL a)) 15 j (zL b)) 17 j (zI sg)).1 16 := by
    rw [sw_wI_ne (by decide)]
    funext x
    unfold laP
    rw [if_neg (by omega)]
    rfl
  rw [e9, sw_pI_self rfl] at g9
  exact g9
theorem m_answerComes {e : Nat → Int} {sg : Int} (V : imB h n p bx) (kB : okB n p bx) (R : rwM h 9 n e) (he : e6Z n e) (hS : h.1 0 14 = zI sg) (hs : sg = 1 ∨ sg = -1) (W : tbM h n p T) (hT : srtZ T) (hN : T.1 < 264) (hno : ¬ inT T (aU n p e sg) (bU n p e)) : sw_ct wM X l (d + 1) mX12_answerComes [.ref 0] h (sw_qV wM X fun h2 => frM [14, 15, 16, 17] [19] h h2 ∧ tbM h2 n p (insX T (aU n p e sg) (bU n p e) 0)) := by
  have hn := kB.1
  have hp := copP_of kB
  have hpb : ∀ i, i < n → 2 ≤ p i ∧ p i ≤ 31 := fun i hi => (kB.2.1 i hi).2
  have b9 := ab_b hp.1 kB.2.2.2.1 hs he
  have he100 : ∀ i, i < n → -100 ≤ e i ∧ e i ≤ 100 := fun i hi => by have := he i hi; omega
  have fu := fr_unit hp hs he
  refine sw_ct_of (by decide +kernel) (Nat.le_of_ble_eq_true rfl) rfl ?_
  generalize hQ : (sw_qV wM X fun h2 => frM [14, 15, 16, 17] [19] h h2 ∧ tbM h2 n p (insX T (aU n p e sg) (bU n p e) 0)) = Qc
  have e1 : ∀ j : Nat, zI ((j + 1 : Nat) : Int) - zI 1 = zI j := fun j => by rw [zI_sub]; congr 1; omega
  -- at its place
  have fin : ∀ (j : Nat) (g : sw_H), j ≤ T.1 → frM [14, 15, 16, 17] [] h g → (∀ i, i < j → rowT g n p i (T.2.1 i) (T.2.2.1 i)) → (∀ i, j < i → i ≤ T.1 → rowT g n p i (T.2.1 (i - 1)) (T.2.2.1 (i - 1))) → plT T (aU n p e sg) (bU n p e) T.1 = j → sw_wp wM X l (d + 1) mX12_answerComes Qc 173 [(0, .ref 0), (1, .long (zL (aU n p e sg))), (3, .long (zL (bU n p e))), (5, .int (zI j))] [] g := by
    intro j g hj A g1 g2 hpl
    subst hQ
    refine answer_lay (e := e) (N := T.1) (by rw [A.2.2 0 (by decide)]; exact V.1) hn (by omega) (by rw [A.2.2 19 (by decide)]; exact W.1) (by omega) (by rw [A.2.2 14 (by decide)]; exact hS) (rwM_fr R A (by decide) (by decide)) (fun k B k14 k15 k17 k16 k19 => ⟨frM_tr (frM_sub A (fun x hx => hx) (fun x hx => absurd hx List.not_mem_nil)) B, ?_⟩)
    unfold insX
    rw [hpl]
    refine ⟨k19, ⟨by show T.1 + 1 ≤ 264; omega, fun i hi => ?_⟩, fun i hi => ?_⟩
    · have hi : i < T.1 + 1 := hi
      show (insR j T.1 (aU n p e sg) T.2.1 i).natAbs < 4611686018427387904 ∧ 0 < insR j T.1 (bU n p e) T.2.2.1 i ∧ insR j T.1 (bU n p e) T.2.2.1 i < 4611686018427387904
      rcases Nat.lt_trichotomy i j with q | q | q
      · rw [insR_lt q, insR_lt q]; exact W.2.1.2 i (by omega)
      · subst q; rw [insR_eq, insR_eq]; omega
      · rw [insR_gt q (by omega), insR_gt q (by omega)]; exact W.2.1.2 (i - 1) (by omega)
    · have hi : i < T.1 + 1 := hi
      show rowT k n p i (insR j T.1 (aU n p e sg) T.2.1 i) (insR j T.1 (bU n p e) T.2.2.1 i)
      have ne : ∀ (a b : Int), i ≠ j → rowT g n p i a b → rowT k n p i a b := by
        intro a b q ⟨r1, r2, r3, r4⟩
        refine ⟨?_, ?_, ?_, fun t ht => ?_⟩
        · rw [k14]; simp only [va_up, if_neg q]; exact r1
        · rw [k15]; simp only [va_up, if_neg q]; exact r2
        · rw [k17]; simp only [va_up, if_neg q]; exact r3
        · rw [k16]; unfold laP; rw [if_neg (by omega)]; exact r4 t ht
      rcases Nat.lt_trichotomy i j with q | q | q
      · rw [insR_lt q, insR_lt q]; exact ne _ _ (by omega) (g1 i q)
      · subst q; rw [insR_eq, insR_eq]
        refine ⟨?_, ?_, ?_, fun t ht => ?_⟩
        · rw [k14]; simp [va_up]
        · rw [k15]; simp [va_up]
        · rw [k17, fu.1]; simp [va_up]
        · rw [k16, fu.2 t ht]; unfold laP; rw [if_pos (by omega)]; congr 2; omega
      · rw [insR_gt q (by omega), insR_gt q (by omega)]; exact ne _ _ (by omega) (g2 i q (by omega))
  have loop : ∀ (j : Nat) (g : sw_H), j ≤ T.1 → frM [14, 15, 16, 17] [] h g → (∀ i, i < j → rowT g n p i (T.2.1 i) (T.2.2.1 i)) → (∀ i, j < i → i ≤ T.1 → rowT g n p i (T.2.1 (i - 1)) (T.2.2.1 (i - 1))) → (∀ i, j ≤ i → i < T.1 → kLtB (T.2.1 i) (T.2.2.1 i) (aU n p e sg) (bU n p e) = false) → sw_wp wM X l (d + 1) mX12_answerComes Qc 28 [(0, .ref 0), (1, .long (zL (aU n p e sg))), (3, .long (zL (bU n p e))), (5, .int (zI j))] [] g := by
    intro j
    induction j with
    | zero =>
      intro g hj A g1 g2 H
      have pl := plT_at T (aU n p e sg) (bU n p e) 0 (fun i hi => absurd hi (Nat.not_lt_zero i)) H T.1 (by omega) (Nat.le_refl _)
      refine sw_iload 30 dX12_answerComes_28 rfl rfl ?_
      refine sw_if_le 173 33 dX12_answerComes_30 (by decide) rfl (fun c30 => ?_) (fun c30 => ?_)
      · exact fin 0 g hj A g1 g2 pl
      · exact absurd (by decide : zI ((0 : Nat) : Int) ≤ 0) c30
    | succ j ih =>
      intro g hj A g1 g2 H
      have hin0 := zI_inN (a := j) (n := 800) (by omega) (by decide)
      have rj := g1 j (by omega)
      have ok := W.2.1.2 j (by omega)
      have e0 : g.1 0 0 = zI n := by rw [A.2.2 0 (by decide)]; exact V.1
      have stop9 : kLt (T.2.1 j) (T.2.2.1 j) (aU n p e sg) (bU n p e) → plT T (aU n p e sg) (bU n p e) T.1 = j + 1 := fun q =>
        plT_at T (aU n p e sg) (bU n p e) (j + 1) (fun i hi => (by
          rw [kLtB_iff]
          by_cases ei : i = j
          · rw [ei]; exact q
          · have := hT i j (by omega) (by omega)
            unfold kLt at *; omega)) H T.1 hj (Nat.le_refl _)
      have move9 : ¬ kLt (T.2.1 j) (T.2.2.1 j) (aU n p e sg) (bU n p e) → sw_wp wM X l (d + 1) mX12_answerComes Qc 75 [(0, .ref 0), (1, .long (zL (aU n p e sg))), (3, .long (zL (bU n p e))), (5, .int (zI ((j + 1 : Nat) : Int)))] [] g := by
        intro q
        refine answer_move e0 hn (by omega) (fun k B k14 k15 k17 k16 => ?_)
        refine ih k (by omega) (frM_tr A B) (fun i hi => ?_) (fun i h1 h2 => ?_) (fun i h1 h2 => ?_)
        · obtain ⟨r1, r2, r3, r4⟩ := g1 i (by omega)
          refine ⟨?_, ?_, ?_, fun t ht => ?_⟩
          · rw [k14]; simp only [va_up]; rw [if_neg (by omega)]; exact r1
          · rw [k15]; simp only [va_up]; rw [if_neg (by omega)]; exact r2
          · rw [k17]; simp only [va_up]; rw [if_neg (by omega)]; exact r3
          · rw [k16]; unfold shP; rw [if_neg (by omega)]; exact r4 t ht
        · by_cases ei : i = j + 1
          · subst ei
            obtain ⟨r1, r2, r3, r4⟩ := rj
            rw [Nat.add_sub_cancel]
            refine ⟨?_, ?_, ?_, fun t ht => ?_⟩
            · rw [k14]; simp only [va_up, if_true]; exact r1
            · rw [k15]; simp only [va_up, if_true]; exact r2
            · rw [k17]; simp only [va_up, if_true]; exact r3
            · rw [k16]; unfold shP; rw [if_pos (by omega), show 4 * (j + 1) + t - 4 = 4 * j + t by omega]; exact r4 t ht
          · obtain ⟨r1, r2, r3, r4⟩ := g2 i (by omega) h2
            refine ⟨?_, ?_, ?_, fun t ht => ?_⟩
            · rw [k14]; simp only [va_up, if_neg ei]; exact r1
            · rw [k15]; simp only [va_up, if_neg ei]; exact r2
            · rw [k17]; simp only [va_up, if_neg ei]; exact r3
            · rw [k16]; unfold shP; rw [if_neg (by omega)]; exact r4 t ht
        · by_cases ei : i = j
          · rw [ei]
            cases hc : kLtB (T.2.1 j) (T.2.2.1 j) (aU n p e sg) (bU n p e) with
            | false => rfl
            | true => exact absurd (kLtB_iff.mp hc) q
          · exact H i (by omega) h2
      have ne9 : ¬ (T.2.1 j = aU n p e sg ∧ T.2.2.1 j = bU n p e) := fun q => hno ⟨j, by omega, q.1, q.2⟩
      refine sw_iload 30 dX12_answerComes_28 rfl rfl ?_
      refine sw_if_le 173 33 dX12_answerComes_30 (by decide) rfl (fun c30 => ?_) (fun c30 => ?_)
      · exact absurd c30 (by rw [z0, zI_le (by omega) (by omega) (by omega) (by omega)]; omega)
      · refine sw_aload_n 34 dX12_answerComes_33 rfl rfl rfl ?_
        refine sw_getR (b := 15) 37 dX12_answerComes_34 rfl gf_RX12_55 (fun _ _ _ _ => rfl) ⟨by decide, rfl⟩ rfl ?_
        refine sw_iload 39 dX12_answerComes_37 rfl rfl ?_
        refine sw_iconst (v := zI 1) 40 dX12_answerComes_39 rfl (by decide) ?_
        refine sw_isub 41 dX12_answerComes_40 rfl ?_
        rw [e1]
        refine sw_lald 42 dX12_answerComes_41 rfl ⟨by decide, rfl⟩ (by assumption) ?_
        rw [zI_clampN (by omega), rj.2.1]
        refine sw_lload_n 43 dX12_answerComes_42 rfl rfl rfl ?_
        refine sw_lcmp 44 dX12_answerComes_43 rfl ?_
        refine sw_if_gt 75 47 dX12_answerComes_44 (by decide) rfl (fun c44 => ?_) (fun c44 => ?_)
        · rw [lc_gt, zL_lt (by omega) (by omega) (by omega) (by omega)] at c44
          exact move9 (by unfold kLt; omega)
        · rw [lc_gt, zL_lt (by omega) (by omega) (by omega) (by omega)] at c44
          refine sw_aload_n 48 dX12_answerComes_47 rfl rfl rfl ?_
          refine sw_getR (b := 15) 51 dX12_answerComes_48 rfl gf_RX12_55 (fun _ _ _ _ => rfl) ⟨by decide, rfl⟩ rfl ?_
          refine sw_iload 53 dX12_answerComes_51 rfl rfl ?_
          refine sw_iconst (v := zI 1) 54 dX12_answerComes_53 rfl (by decide) ?_
          refine sw_isub 55 dX12_answerComes_54 rfl ?_
          rw [e1]
          refine sw_lald 56 dX12_answerComes_55 rfl ⟨by decide, rfl⟩ (by assumption) ?_
          rw [zI_clampN (by omega), rj.2.1]
          refine sw_lload_n 57 dX12_answerComes_56 rfl rfl rfl ?_
          refine sw_lcmp 58 dX12_answerComes_57 rfl ?_
          refine sw_if_ne 173 61 dX12_answerComes_58 (by decide) rfl (fun c58 => ?_) (fun c58 => ?_)
          · rw [lc_eq, zL_eq (by omega) (by omega) (by omega) (by omega)] at c58
            exact fin (j + 1) g hj A g1 g2 (stop9 (by unfold kLt; omega))
          · rw [lc_eq, zL_eq (by omega) (by omega) (by omega) (by omega)] at c58
            refine sw_aload_n 62 dX12_answerComes_61 rfl rfl rfl ?_
            refine sw_getR (b := 14) 65 dX12_answerComes_62 rfl gf_RX12_52 (fun _ _ _ _ => rfl) ⟨by decide, rfl⟩ rfl ?_
            refine sw_iload 67 dX12_answerComes_65 rfl rfl ?_
            refine sw_iconst (v := zI 1) 68 dX12_answerComes_67 rfl (by decide) ?_
            refine sw_isub 69 dX12_answerComes_68 rfl ?_
            rw [e1]
            refine sw_lald 70 dX12_answerComes_69 rfl ⟨by decide, rfl⟩ (by assumption) ?_
            rw [zI_clampN (by omega), rj.1]
            refine sw_lload_n 71 dX12_answerComes_70 rfl rfl rfl ?_
            refine sw_lcmp 72 dX12_answerComes_71 rfl ?_
            refine sw_if_le 173 75 dX12_answerComes_72 (by decide) rfl (fun c72 => ?_) (fun c72 => ?_)
            · rw [lc_le, zL_le (by omega) (by omega) (by omega) (by omega)] at c72
              exact fin (j + 1) g hj A g1 g2 (stop9 (by unfold kLt; omega))
            · rw [lc_le, zL_le (by omega) (by omega) (by omega) (by omega)] at c72
              exact move9 (by unfold kLt; omega)
  refine sw_aload_n 1 dX12_answerComes_0 rfl rfl rfl ?_
  refine sw_aload_n 2 dX12_answerComes_1 rfl rfl rfl ?_
  refine sw_getR (b := 9) 5 dX12_answerComes_2 rfl gf_RX12_37 (fun _ _ _ _ => rfl) ⟨by decide, rfl⟩ rfl ?_
  refine sw_aload_n 6 dX12_answerComes_5 rfl rfl rfl ?_
  refine sw_getI 9 dX12_answerComes_6 rfl gf_RX12_109 rfl ⟨by decide, rfl⟩ ?_
  rw [hS]
  refine sw_invVL 12 dX12_answerComes_9 rfl lk_RX12_116 (m_aboveOf V hn hpb r9 R he100 hs) ⟨by decide, rfl⟩ rfl rfl (Nat.le_of_ble_eq_true rfl) (fun r9 h9 hq9 => ?_)
  obtain ⟨rfl, rfl⟩ := hq9
  rw [show sg * sideZ p e 1 n = aU n p e sg from rfl]
  refine sw_lstore_n (lc' := [(0, _), (1, _)]) 13 dX12_answerComes_12 rfl rfl (by decide) rfl ?_
  refine sw_aload_n 14 dX12_answerComes_13 rfl rfl rfl ?_
  refine sw_aload_n 15 dX12_answerComes_14 rfl rfl rfl ?_
  refine sw_getR (b := 9) 18 dX12_answerComes_15 rfl gf_RX12_37 (fun _ _ _ _ => rfl) ⟨by decide, rfl⟩ rfl ?_
  refine sw_invVL 21 dX12_answerComes_18 rfl lk_RX12_112 (m_belowOf V hn hpb r9 R he100) ⟨by decide, rfl⟩ rfl rfl (Nat.le_of_ble_eq_true rfl) (fun r18 h18 hq18 => ?_)
  obtain ⟨rfl, rfl⟩ := hq18
  rw [show sideZ p e (-1) n = bU n p e from rfl]
  refine sw_lstore_n (lc' := [(0, _), (1, _), (3, _)]) 22 dX12_answerComes_21 rfl rfl (by decide) rfl ?_
  refine sw_aload_n 23 dX12_answerComes_22 rfl rfl rfl ?_
  refine sw_getI 26 dX12_answerComes_23 rfl gf_RX12_167 rfl ⟨by decide, rfl⟩ ?_
  rw [W.1]
  refine sw_istore (lc' := [(0, _), (1, _), (3, _), (5, _)]) 28 dX12_answerComes_26 rfl (by decide) rfl ?_
  exact loop T.1 _ (Nat.le_refl _) frM_rf W.2.2 (fun i h1 h2 => by omega) (fun i h1 h2 => by omega)
end sw_m13
