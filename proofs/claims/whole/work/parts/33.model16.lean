section M16
variable {G : GE} {I : Ints} {b : Bool}
/-- the pile g holds the bits s, the last one put first -/
def pst (g : Int → Int) : List Bool → Prop
  | [] => True
  | x :: r => g r.length = (if x = true then 1 else 0) ∧ pst g r
theorem pst_up {g g' : Int → Int} {n : Int} : ∀ (s : List Bool), (s.length : Int) ≤ n → (∀ j, j < n → g' j = g j) → pst g s → pst g' s
  | [], _, _, _ => trivial
  | x :: r, h, e, p => by
    have hl : ((x :: r).length : Int) = r.length + 1 := by rw [List.length_cons]; omega
    exact ⟨by rw [e _ (by omega)]; exact p.1, pst_up r (by omega) e p.2⟩
theorem vlx_bd {x w c fl : Int} (h0 : 0 ≤ x) (h1 : x ≤ 1002) (w0 : 0 ≤ w) (w1 : w ≤ 20) (c0 : 0 ≤ c) (c1 : c ≤ 200) (f0 : 0 ≤ fl) (f1 : fl ≤ 12) : 0 ≤ vlx x w c fl ∧ vlx x w c fl ≤ 999 := by
  unfold vlx
  repeat' split
  all_goals omega
theorem c_X9_holds (l w v c p : Int) (S : List St) (hw : WN (I 112)) (l0 : 0 ≤ l) (l1 : l < 8) (w0 : 0 ≤ w) (w1 : w ≤ 20) (v0 : 0 ≤ v) (v1 : v < 6) (c0 : 0 ≤ c) (c1 : c ≤ 200) (p0 : 0 ≤ p)
    (e2 : I 112 (124 + 4 * l + 2) = p) (e3 : I 112 (124 + 4 * l + 3) = p + (codo S).length) (hpl : p + (codo S).length ≤ 200) (hS : oko S) (hc : cat (I 112) p (codo S)) :
    MtI G yX9_holds cX9_holds 11 (some .boolean) 2 [vr 111, vi l, vi w, vi v, vi c] I b (fun z I' b' => z = (if evo w c (I 112 (10 + 18 * v + 0)) S = true then 1 else 0) ∧ b' = b ∧ ∀ c, c ≠ 130 → I' c = I c) := by
  refine mt_enterI (own := RX9) (ls0 := [vr 111, vi l, vi w, vi v, vi c, vu, vu, vu, vu, vu, vu]) rfl (by decide +kernel) (Nat.le_of_ble_eq_true rfl) rfl rfl (fun J hJ hR => ?_)
  have fl := (hw.fact v0 v1).1
  generalize hfl : I 112 (10 + 18 * v + 0) = fw at fl
  generalize hE : p + ((codo S).length : Int) = E at e3 hpl
  -- behind a step's code
  have K296 : ∀ (n k x7 : Int) (y8 y9 y10 : Vl) (I1 : Ints), 0 ≤ k → k < 300 → J 18 [vr 111, vi l, vi w, vi v, vi c, vi n, vi (k + 1), vu, vu, vu, vu] [] (mk I1 b) → J 296 [vr 111, vi l, vi w, vi v, vi c, vi n, vi k, vi x7, y8, y9, y10] [] (mk I1 b) := by
    intro n k x7 y8 y9 y10 I1 k0 k1 kk
    refine ms_iinc (ls' := [_, _, _, _, _, _, _, _, _, _, _]) hJ dX9_holds_296 rfl (by decide) rfl (wr_id (by omega)) rfl ?_
    refine mj_goto (tgt := 18) hJ dX9_holds_299 (by decide) ?_
    refine mj_drop (ls' := [_, _, _, _, _, _, _, vu, vu, vu, vu]) hJ ⟨Or.inl rfl, Or.inl rfl, Or.inl rfl, Or.inl rfl, Or.inl rfl, Or.inl rfl, Or.inl rfl, Or.inr rfl, Or.inr rfl, Or.inr rfl, Or.inr rfl, trivial⟩ ?_
    exact kk
  have HEAD : ∀ (n k code : Int) (I1 : Ints), (∀ c, c ≠ 130 → I1 c = I c) → 0 ≤ k → k < E → I 112 (156 + k) = code → J 49 [vr 111, vi l, vi w, vi v, vi c, vi n, vi k, vi code, vu, vu, vu] [] (mk I1 b) → J 18 [vr 111, vi l, vi w, vi v, vi c, vi n, vi k, vu, vu, vu, vu] [] (mk I1 b) := by
    intro n k code I1 hf k0 k1 hcd kk
    have e112 := hf 112 (by decide)
    refine mj_iload hJ dX9_holds_18 rfl ?_
    refine mj_aload_n hJ dX9_holds_20 rfl ?_
    refine mk_getR hJ dX9_holds_21 fw_X9_9 rfl (by decide) rfl rfl ?_
    refine mj_bipush hJ dX9_holds_24 (by decide) ?_
    refine mj_iconst hJ dX9_holds_26 (by decide) ?_
    refine mj_iload_n hJ dX9_holds_27 rfl ?_
    first | refine ms_imul hJ dX9_holds_28 (by omega) ?_ | refine mj_imul hJ dX9_holds_28 ?_
    first | refine ms_iadd hJ dX9_holds_29 (by omega) ?_ | refine mj_iadd hJ dX9_holds_29 ?_
    refine mj_iconst hJ dX9_holds_30 (by decide) ?_
    first | refine ms_iadd hJ dX9_holds_31 (by omega) ?_ | refine mj_iadd hJ dX9_holds_31 ?_
    refine mk_iald hJ dX9_holds_32 rfl (by omega) (by omega) ?_
    rw [e112, e3]
    refine mj_icmp_ge (tgt := 302) hJ dX9_holds_33 (by decide) (fun hyes => absurd hyes (by omega)) (fun _ => ?_)
    refine mj_aload_n hJ dX9_holds_36 rfl ?_
    refine mk_getR hJ dX9_holds_37 fw_X9_9 rfl (by decide) rfl rfl ?_
    refine mj_sipush hJ dX9_holds_40 (by decide) ?_
    refine mj_iload hJ dX9_holds_43 rfl ?_
    first | refine ms_iadd hJ dX9_holds_45 (by omega) ?_ | refine mj_iadd hJ dX9_holds_45 ?_
    refine mk_iald hJ dX9_holds_46 rfl (by omega) (by omega) ?_
    rw [e112, hcd]
    refine ms_istore (ls' := [_, _, _, _, _, _, _, _, _, _, _]) hJ dX9_holds_47 (by decide) rfl rfl ?_
    exact kk
  have PUSH : ∀ (x n k : Int) (I1 : Ints), (∀ c, c ≠ 130 → I1 c = I c) → 0 ≤ x → x ≤ 1002 → 0 ≤ n → n < 100 → 0 ≤ k → k < E → I 112 (156 + k) = mvl x → J 18 [vr 111, vi l, vi w, vi v, vi c, vi (n + 1), vi (k + 1), vu, vu, vu, vu] [] (mk (upI I1 130 n (vlx x w c fw)) b) → J 18 [vr 111, vi l, vi w, vi v, vi c, vi n, vi k, vu, vu, vu, vu] [] (mk I1 b) := by
    intro x n k I1 hf x0 x1 n0 n1 k0 k1 hcd kk
    have e112 := hf 112 (by decide)
    refine HEAD n k _ I1 hf k0 k1 hcd ?_
    have K : ∀ y : Int, y = vlx x w c fw → J 107 [vr 111, vi l, vi w, vi v, vi c, vi n, vi k, vi (mvl x), vu, vu, vu] [vi y, vi n, vr 130] (mk I1 b) := by
      intro y hy
      refine mk_iast hJ dX9_holds_107 rfl (by omega) (by omega) ?_
      refine ms_iinc (ls' := [_, _, _, _, _, _, _, _, _, _, _]) hJ dX9_holds_108 rfl (by decide) rfl (wr_id (by omega)) rfl ?_
      refine mj_goto (tgt := 296) hJ dX9_holds_111 (by decide) ?_
      rw [hy]
      exact K296 _ _ _ _ _ _ _ k0 (by omega) kk
    have hm : mvl x = if x < 1000 then x else x + 1000 := rfl
    refine mj_iload hJ dX9_holds_49 rfl ?_
    refine mj_sipush hJ dX9_holds_51 (by decide) ?_
    refine mj_icmp_gt (tgt := 114) hJ dX9_holds_54 (by decide) (fun hyes => absurd hyes (by split at hm <;> omega)) (fun _ => ?_)
    refine mj_aload_n hJ dX9_holds_57 rfl ?_
    refine mk_getR hJ dX9_holds_58 fw_X9_65 rfl (by decide) rfl rfl ?_
    refine mj_iload hJ dX9_holds_61 rfl ?_
    refine mj_iload hJ dX9_holds_63 rfl ?_
    refine mj_sipush hJ dX9_holds_65 (by decide) ?_
    refine mj_icmp_ne (tgt := 75) hJ dX9_holds_68 (by decide) (fun h1 => ?_) (fun h1 => ?_)
    · refine mj_iload hJ dX9_holds_75 rfl ?_
      refine mj_sipush hJ dX9_holds_77 (by decide) ?_
      refine mj_icmp_ne (tgt := 88) hJ dX9_holds_80 (by decide) (fun h2 => ?_) (fun h2 => ?_)
      · refine mj_iload hJ dX9_holds_88 rfl ?_
        refine mj_sipush hJ dX9_holds_90 (by decide) ?_
        refine mj_icmp_ne (tgt := 105) hJ dX9_holds_93 (by decide) (fun h3 => ?_) (fun h3 => ?_)
        · refine mj_iload hJ dX9_holds_105 rfl ?_
          have hx : x < 1000 := by split at hm <;> omega
          exact K (mvl x) (by unfold vlx; rw [if_neg (by omega), if_neg (by omega), if_neg (by omega), hm, if_pos hx])
        · refine mj_aload_n hJ dX9_holds_96 rfl ?_
          refine mj_iload_n hJ dX9_holds_97 rfl ?_
          refine mj_iconst hJ dX9_holds_98 (by decide) ?_
          refine mk_Vp2 hJ dX9_holds_99 cw_X9_116 rfl rfl rfl rfl (Nat.le_of_ble_eq_true rfl) (by first | decide | omega) (c_X9_of v 0 v0 v1 (by omega) (by omega)) ?_
          rw [e112, hfl]
          refine mj_goto (tgt := 107) hJ dX9_holds_102 (by decide) ?_
          have hx : x = 1002 := by split at hm <;> omega
          exact K fw (by unfold vlx; rw [if_neg (by omega), if_neg (by omega), if_pos hx])
      · refine mj_iload hJ dX9_holds_83 rfl ?_
        refine mj_goto (tgt := 107) hJ dX9_holds_85 (by decide) ?_
        have hx : x = 1001 := by split at hm <;> omega
        exact K c (by unfold vlx; rw [if_neg (by omega), if_pos hx])
    · refine mj_iload_n hJ dX9_holds_71 rfl ?_
      refine mj_goto (tgt := 107) hJ dX9_holds_72 (by decide) ?_
      have hx : x = 1000 := by split at hm <;> omega
      exact K w (by unfold vlx; rw [if_pos hx])
  have OP : ∀ (m k code A B x : Int) (I1 : Ints), 0 ≤ m → m < 100 → 0 ≤ k → k < 300 → I1 130 m = A → I1 130 (m + 1) = B → (0 ≤ A ∧ A ≤ 999) → (0 ≤ B ∧ B ≤ 999) →
      ((code = 2003 ∧ x = if A < B then 1 else 0) ∨ (code = 2004 ∧ x = if A = B then 1 else 0) ∨ (code = 2005 ∧ x = if B < A then 1 else 0) ∨ (code = 2007 ∧ x = if A + B = 2 then 1 else 0) ∨ (code = 2008 ∧ x = if 0 < A + B then 1 else 0)) →
      J 18 [vr 111, vi l, vi w, vi v, vi c, vi (m + 1), vi (k + 1), vu, vu, vu, vu] [] (mk (upI I1 130 m x) b) → J 49 [vr 111, vi l, vi w, vi v, vi c, vi (m + 2), vi k, vi code, vu, vu, vu] [] (mk I1 b) := by
    intro m k code A B x I1 m0 m1 k0 k1 hA hB hA2 hB2 hx kk
    have K275 : ∀ y : Int, y = x → (y = 0 ∨ y = 1) → J 275 [vr 111, vi l, vi w, vi v, vi c, vi (m + 1), vi k, vi code, vi A, vi B, vu] [vi y] (mk I1 b) := by
      intro y hy hy2
      refine ms_istore (ls' := [_, _, _, _, _, _, _, _, _, _, _]) hJ dX9_holds_275 (by decide) rfl rfl ?_
      refine mj_aload_n hJ dX9_holds_277 rfl ?_
      refine mk_getR hJ dX9_holds_278 fw_X9_65 rfl (by decide) rfl rfl ?_
      refine mj_iload hJ dX9_holds_281 rfl ?_
      refine mj_iconst hJ dX9_holds_283 (by decide) ?_
      first | refine ms_isub hJ dX9_holds_284 (by omega) ?_ | refine mj_isub hJ dX9_holds_284 ?_
      refine mj_iload hJ dX9_holds_285 rfl ?_
      rw [show m + 1 - 1 = m by omega]
      refine mj_if_eq (tgt := 294) hJ dX9_holds_287 (by decide) (fun h => ?_) (fun h => ?_)
      · refine mj_iconst hJ dX9_holds_294 (by decide) ?_
        refine mk_iast hJ dX9_holds_295 rfl (by omega) (by omega) ?_
        rw [← hy, h] at kk
        exact K296 _ _ _ _ _ _ _ k0 k1 kk
      · refine mj_iconst hJ dX9_holds_290 (by decide) ?_
        refine mj_goto (tgt := 295) hJ dX9_holds_291 (by decide) ?_
        refine mk_iast hJ dX9_holds_295 rfl (by omega) (by omega) ?_
        rw [← hy, show y = 1 by omega] at kk
        exact K296 _ _ _ _ _ _ _ k0 k1 kk
    refine mj_iload hJ dX9_holds_49 rfl ?_
    refine mj_sipush hJ dX9_holds_51 (by decide) ?_
    refine mj_icmp_gt (tgt := 114) hJ dX9_holds_54 (by decide) (fun _ => ?_) (fun hno => absurd (by omega) hno)
    refine mj_iload hJ dX9_holds_114 rfl ?_
    refine mj_sipush hJ dX9_holds_116 (by decide) ?_
    refine mj_icmp_ne (tgt := 145) hJ dX9_holds_119 (by decide) (fun _ => ?_) (fun hno => absurd hno (by omega))
    refine ms_iinc (ls' := [_, _, _, _, _, _, _, _, _, _, _]) hJ dX9_holds_145 rfl (by decide) rfl (wr_id (by omega)) rfl ?_
    rw [show m + 2 + -1 = m + 1 by omega]
    refine mj_aload_n hJ dX9_holds_148 rfl ?_
    refine mk_getR hJ dX9_holds_149 fw_X9_65 rfl (by decide) rfl rfl ?_
    refine mj_iload hJ dX9_holds_152 rfl ?_
    refine mj_iconst hJ dX9_holds_154 (by decide) ?_
    first | refine ms_isub hJ dX9_holds_155 (by omega) ?_ | refine mj_isub hJ dX9_holds_155 ?_
    refine mk_iald hJ dX9_holds_156 rfl (by omega) (by omega) ?_
    rw [show m + 1 - 1 = m by omega, hA]
    refine ms_istore (ls' := [_, _, _, _, _, _, _, _, _, _, _]) hJ dX9_holds_157 (by decide) rfl rfl ?_
    refine mj_aload_n hJ dX9_holds_159 rfl ?_
    refine mk_getR hJ dX9_holds_160 fw_X9_65 rfl (by decide) rfl rfl ?_
    refine mj_iload hJ dX9_holds_163 rfl ?_
    refine mk_iald hJ dX9_holds_165 rfl (by omega) (by omega) ?_
    rw [hB]
    refine ms_istore (ls' := [_, _, _, _, _, _, _, _, _, _, _]) hJ dX9_holds_166 (by decide) rfl rfl ?_
    refine mj_iload hJ dX9_holds_168 rfl ?_
    refine mj_sipush hJ dX9_holds_170 (by decide) ?_
    refine mj_icmp_ne (tgt := 191) hJ dX9_holds_173 (by decide) (fun h3 => ?_) (fun h3 => ?_)
    · refine mj_iload hJ dX9_holds_191 rfl ?_
      refine mj_sipush hJ dX9_holds_193 (by decide) ?_
      refine mj_icmp_ne (tgt := 214) hJ dX9_holds_196 (by decide) (fun h4 => ?_) (fun h4 => ?_)
      · refine mj_iload hJ dX9_holds_214 rfl ?_
        refine mj_sipush hJ dX9_holds_216 (by decide) ?_
        refine mj_icmp_ne (tgt := 237) hJ dX9_holds_219 (by decide) (fun h5 => ?_) (fun h5 => ?_)
        · refine mj_iload hJ dX9_holds_237 rfl ?_
          refine mj_sipush hJ dX9_holds_239 (by decide) ?_
          refine mj_icmp_ne (tgt := 262) hJ dX9_holds_242 (by decide) (fun h7 => ?_) (fun h7 => ?_)
          · have hx8 : x = if 0 < A + B then 1 else 0 := by omega
            refine mj_iload hJ dX9_holds_262 rfl ?_
            refine mj_iload hJ dX9_holds_264 rfl ?_
            first | refine ms_iadd hJ dX9_holds_266 (by omega) ?_ | refine mj_iadd hJ dX9_holds_266 ?_
            refine mj_if_le (tgt := 274) hJ dX9_holds_267 (by decide) (fun h8 => ?_) (fun h8 => ?_)
            · refine mj_iconst hJ dX9_holds_274 (by decide) ?_
              exact K275 0 (by rw [hx8, if_neg (by omega)]) (by omega)
            · refine mj_iconst hJ dX9_holds_270 (by decide) ?_
              refine mj_goto (tgt := 275) hJ dX9_holds_271 (by decide) ?_
              exact K275 1 (by rw [hx8, if_pos (by omega)]) (by omega)
          · have hx7 : x = if A + B = 2 then 1 else 0 := by omega
            refine mj_iload hJ dX9_holds_245 rfl ?_
            refine mj_iload hJ dX9_holds_247 rfl ?_
            first | refine ms_iadd hJ dX9_holds_249 (by omega) ?_ | refine mj_iadd hJ dX9_holds_249 ?_
            refine mj_iconst hJ dX9_holds_250 (by decide) ?_
            refine mj_icmp_ne (tgt := 258) hJ dX9_holds_251 (by decide) (fun h8 => ?_) (fun h8 => ?_)
            · refine mj_iconst hJ dX9_holds_258 (by decide) ?_
              refine mj_goto (tgt := 275) hJ dX9_holds_259 (by decide) ?_
              exact K275 0 (by rw [hx7, if_neg (by omega)]) (by omega)
            · refine mj_iconst hJ dX9_holds_254 (by decide) ?_
              refine mj_goto (tgt := 275) hJ dX9_holds_255 (by decide) ?_
              exact K275 1 (by rw [hx7, if_pos (by omega)]) (by omega)
        · have hx5 : x = if B < A then 1 else 0 := by omega
          refine mj_iload hJ dX9_holds_222 rfl ?_
          refine mj_iload hJ dX9_holds_224 rfl ?_
          refine mj_icmp_le (tgt := 233) hJ dX9_holds_226 (by decide) (fun h8 => ?_) (fun h8 => ?_)
          · refine mj_iconst hJ dX9_holds_233 (by decide) ?_
            refine mj_goto (tgt := 275) hJ dX9_holds_234 (by decide) ?_
            exact K275 0 (by rw [hx5, if_neg (by omega)]) (by omega)
          · refine mj_iconst hJ dX9_holds_229 (by decide) ?_
            refine mj_goto (tgt := 275) hJ dX9_holds_230 (by decide) ?_
            exact K275 1 (by rw [hx5, if_pos (by omega)]) (by omega)
      · have hx4 : x = if A = B then 1 else 0 := by omega
        refine mj_iload hJ dX9_holds_199 rfl ?_
        refine mj_iload hJ dX9_holds_201 rfl ?_
        refine mj_icmp_ne (tgt := 210) hJ dX9_holds_203 (by decide) (fun h8 => ?_) (fun h8 => ?_)
        · refine mj_iconst hJ dX9_holds_210 (by decide) ?_
          refine mj_goto (tgt := 275) hJ dX9_holds_211 (by decide) ?_
          exact K275 0 (by rw [hx4, if_neg (by omega)]) (by omega)
        · refine mj_iconst hJ dX9_holds_206 (by decide) ?_
          refine mj_goto (tgt := 275) hJ dX9_holds_207 (by decide) ?_
          exact K275 1 (by rw [hx4, if_pos (by omega)]) (by omega)
    · have hx3 : x = if A < B then 1 else 0 := by omega
      refine mj_iload hJ dX9_holds_176 rfl ?_
      refine mj_iload hJ dX9_holds_178 rfl ?_
      refine mj_icmp_ge (tgt := 187) hJ dX9_holds_180 (by decide) (fun h8 => ?_) (fun h8 => ?_)
      · refine mj_iconst hJ dX9_holds_187 (by decide) ?_
        refine mj_goto (tgt := 275) hJ dX9_holds_188 (by decide) ?_
        exact K275 0 (by rw [hx3, if_neg (by omega)]) (by omega)
      · refine mj_iconst hJ dX9_holds_183 (by decide) ?_
        refine mj_goto (tgt := 275) hJ dX9_holds_184 (by decide) ?_
        exact K275 1 (by rw [hx3, if_pos (by omega)]) (by omega)
  have EXIT : ∀ (s : List Bool) (I1 : Ints), (∀ c, c ≠ 130 → I1 c = I c) → s.length ≤ 1 → pst (I1 130) s → hdb s = evo w c fw S → J 18 [vr 111, vi l, vi w, vi v, vi c, vi s.length, vi E, vu, vu, vu, vu] [] (mk I1 b) := by
    intro s I1 hf hs hp hz
    have e112 := hf 112 (by decide)
    refine mj_iload hJ dX9_holds_18 rfl ?_
    refine mj_aload_n hJ dX9_holds_20 rfl ?_
    refine mk_getR hJ dX9_holds_21 fw_X9_9 rfl (by decide) rfl rfl ?_
    refine mj_bipush hJ dX9_holds_24 (by decide) ?_
    refine mj_iconst hJ dX9_holds_26 (by decide) ?_
    refine mj_iload_n hJ dX9_holds_27 rfl ?_
    first | refine ms_imul hJ dX9_holds_28 (by omega) ?_ | refine mj_imul hJ dX9_holds_28 ?_
    first | refine ms_iadd hJ dX9_holds_29 (by omega) ?_ | refine mj_iadd hJ dX9_holds_29 ?_
    refine mj_iconst hJ dX9_holds_30 (by decide) ?_
    first | refine ms_iadd hJ dX9_holds_31 (by omega) ?_ | refine mj_iadd hJ dX9_holds_31 ?_
    refine mk_iald hJ dX9_holds_32 rfl (by omega) (by omega) ?_
    rw [e112, e3]
    refine mj_icmp_ge (tgt := 302) hJ dX9_holds_33 (by decide) (fun _ => ?_) (fun hno => absurd (by omega) hno)
    refine mj_iload hJ dX9_holds_302 rfl ?_
    match s, hs, hp, hz with
    | [], _, _, hz =>
      refine mj_if_eq (tgt := 317) hJ dX9_holds_304 (by decide) (fun _ => ?_) (fun hno => absurd rfl hno)
      refine mj_iconst hJ dX9_holds_317 (by decide) ?_
      refine mj_goto (tgt := 322) hJ dX9_holds_318 (by decide) ?_
      exact hR _ _ _ _ _ dX9_holds_322 (nar_z (by first | exact Or.inl rfl | exact Or.inr rfl | assumption | omega)) ⟨by rw [hfl, ← hz]; rfl, rfl, hf⟩
    | [x], _, hp, hz =>
      have h1 : I1 130 0 = if x = true then 1 else 0 := hp.1
      refine mj_if_eq (tgt := 317) hJ dX9_holds_304 (by decide) (fun hyes => absurd hyes (by rw [List.length_cons]; omega)) (fun _ => ?_)
      refine mj_aload_n hJ dX9_holds_307 rfl ?_
      refine mk_getR hJ dX9_holds_308 fw_X9_65 rfl (by decide) rfl rfl ?_
      refine mj_iconst hJ dX9_holds_311 (by decide) ?_
      refine mk_iald hJ dX9_holds_312 rfl (by omega) (by omega) ?_
      refine mj_iconst hJ dX9_holds_313 (by decide) ?_
      rw [h1]
      cases x with
      | true =>
        refine mj_icmp_ne (tgt := 321) hJ dX9_holds_314 (by decide) (fun hyes => absurd rfl hyes) (fun _ => ?_)
        refine mj_iconst hJ dX9_holds_317 (by decide) ?_
        refine mj_goto (tgt := 322) hJ dX9_holds_318 (by decide) ?_
        exact hR _ _ _ _ _ dX9_holds_322 (nar_z (by first | exact Or.inl rfl | exact Or.inr rfl | assumption | omega)) ⟨by rw [hfl, ← hz]; rfl, rfl, hf⟩
      | false =>
        refine mj_icmp_ne (tgt := 321) hJ dX9_holds_314 (by decide) (fun _ => ?_) (fun hno => absurd hno (by decide))
        refine mj_iconst hJ dX9_holds_321 (by decide) ?_
        exact hR _ _ _ _ _ dX9_holds_322 (nar_z (by first | exact Or.inl rfl | exact Or.inr rfl | assumption | omega)) ⟨by rw [hfl, ← hz]; rfl, rfl, hf⟩
    | _ :: _ :: _, hs, _, _ => exact absurd hs (by simp)
  have LOOP : ∀ (L : List St) (s : List Bool) (k : Int) (I1 : Ints), (∀ c, c ≠ 130 → I1 c = I c) → 0 ≤ k → k + (codo L).length = E → cat (I 112) k (codo L) → s.length ≤ 20 → pst (I1 130) s → (wst L s.length ∨ (L = [] ∧ s = [])) → hdb (evs w c fw L s) = evo w c fw S → J 18 [vr 111, vi l, vi w, vi v, vi c, vi s.length, vi k, vu, vu, vu, vu] [] (mk I1 b) := by
    intro L
    induction L with
    | nil =>
      intro s k I1 hf k0 hk hcat hs hp hws hz
      have ek : k = E := by
        have : ((codo []).length : Int) = 0 := rfl
        omega
      subst ek
      refine EXIT s I1 hf ?_ hp hz
      rcases hws with h | h
      · have h : (s.length : Int) = 1 := h
        omega
      · rw [h.2]; simp
    | cons t L ih =>
      intro s k I1 hf k0 hk hcat hs hp hws hz
      have hws : wst (t :: L) s.length := hws.resolve_right (fun q => by cases q.1)
      have hco : codo (t :: L) = cods t ++ codo L := rfl
      rw [hco, cat_append] at hcat
      rw [hco, List.length_append] at hk
      by_cases h0 : 0 ≤ t.2.1
      · have hev : evs w c fw (t :: L) s = evs w c fw L (cmpv w c fw t :: s) := by
          show evs w c fw L (if 0 ≤ t.2.1 then _ else _) = _
          rw [if_pos h0]
        have hw2 : okst t ∧ (s.length : Int) < 20 ∧ wst L (s.length + 1) := by
          have h := hws.2
          rw [if_pos h0] at h
          exact ⟨hws.1, h⟩
        have hok : t.2.1 ≤ 2 ∧ (0 ≤ t.1 ∧ t.1 ≤ 1002) ∧ (0 ≤ t.2.2 ∧ t.2.2 ≤ 1002) := by
          rcases hw2.1 with h | h
          · exact h.2
          · omega
        have hcs : cods t = [mvl t.1, mvl t.2.2, 2003 + t.2.1] := by unfold cods; rw [if_pos h0]
        rw [hcs] at hcat hk
        have q1 : I 112 (156 + k) = mvl t.1 := hcat.1.1
        have q2 : I 112 (156 + (k + 1)) = mvl t.2.2 := hcat.1.2.1
        have q3 : I 112 (156 + (k + 1 + 1)) = 2003 + t.2.1 := hcat.1.2.2.1
        have hl3 : (([mvl t.1, mvl t.2.2, 2003 + t.2.1] : List Int).length : Int) = 3 := rfl
        have hk2 : k + 3 + ((codo L).length : Int) = E := by omega
        have va := vlx_bd (x := t.1) (w := w) (c := c) (fl := fw) hok.2.1.1 hok.2.1.2 w0 w1 c0 c1 fl.1 fl.2
        have vb := vlx_bd (x := t.2.2) (w := w) (c := c) (fl := fw) hok.2.2.1 hok.2.2.2 w0 w1 c0 c1 fl.1 fl.2
        refine PUSH t.1 s.length k I1 hf hok.2.1.1 hok.2.1.2 (by omega) (by omega) k0 (by omega) q1 ?_
        refine PUSH t.2.2 (s.length + 1) (k + 1) _ (fun c hc => (upI_ne hc).trans (hf c hc)) hok.2.2.1 hok.2.2.2 (by omega) (by omega) (by omega) (by omega) q2 ?_
        refine HEAD _ (k + 1 + 1) _ _ (fun c hc => (upI_ne hc).trans ((upI_ne hc).trans (hf c hc))) (by omega) (by omega) q3 ?_
        rw [show (s.length : Int) + 1 + 1 = s.length + 2 by omega]
        have hl4 : (((cmpv w c fw t :: s) : List Bool).length : Int) = s.length + 1 := by rw [List.length_cons]; omega
        refine OP s.length (k + 1 + 1) (2003 + t.2.1) (vlx t.1 w c fw) (vlx t.2.2 w c fw) (if cmpv w c fw t = true then 1 else 0) _ (by omega) (by omega) (by omega) (by omega) (by rw [upI_at, if_neg (by omega), upI_at, if_pos rfl]) (by rw [upI_at, if_pos rfl]) va vb ?_ ?_
        · have h3 : t.2.1 = 0 ∨ t.2.1 = 1 ∨ t.2.1 = 2 := by omega
          unfold cmpv
          rcases h3 with h | h | h
          · left
            rw [h]
            simp
          · right; left
            rw [h]
            simp
          · right; right; left
            rw [h]
            simp
        · have := ih (cmpv w c fw t :: s) (k + 1 + 1 + 1) (upI (upI (upI I1 130 s.length (vlx t.1 w c fw)) 130 (s.length + 1) (vlx t.2.2 w c fw)) 130 s.length (if cmpv w c fw t = true then 1 else 0)) (fun c hc => (upI_ne hc).trans ((upI_ne hc).trans ((upI_ne hc).trans (hf c hc)))) (by omega) (by omega) (by
              have := hcat.2
              rw [hl3] at this
              rw [show k + 1 + 1 + 1 = k + 3 by omega]
              exact this) (by rw [List.length_cons]; omega) ⟨by rw [upI_at, if_pos rfl], pst_up (g := I1 130) (n := s.length) s (Int.le_refl _) (fun j hj => by rw [upI_at, if_neg (by omega), upI_at, if_neg (by omega), upI_at, if_neg (by omega)]) hp⟩ (Or.inl (by rw [hl4]; exact hw2.2.2)) (by rw [← hev]; exact hz)
          rw [hl4] at this
          exact this
      · have hcs : cods t = [2005 - t.2.1] := by unfold cods; rw [if_neg h0]
        rw [hcs] at hcat hk
        have q1 : I 112 (156 + k) = 2005 - t.2.1 := hcat.1.1
        have hl3 : (([2005 - t.2.1] : List Int).length : Int) = 1 := rfl
        have hcat2 := hcat.2
        rw [hl3] at hcat2
        have hk2 : k + 1 + ((codo L).length : Int) = E := by omega
        have hw0 := hws.2
        rw [if_neg h0] at hw0
        have hev : evs w c fw (t :: L) s = evs w c fw L (if t.2.1 = -1 then bnot s else if t.2.1 = -2 then band s else bor s) := by
          show evs w c fw L (if 0 ≤ t.2.1 then _ else _) = _
          rw [if_neg h0]
        refine HEAD _ k _ _ hf k0 (by omega) q1 ?_
        by_cases h1 : t.2.1 = -1
        · rw [if_pos h1] at hw0 hev
          rw [h1]
          match s, hp, hw0, hev, hs with
          | [], _, hw0, _, _ => exact absurd hw0.1 (by simp)
          | x :: r, hp, hw0, hev, hs =>
            have hl4 : ((x :: r).length : Int) = r.length + 1 := by rw [List.length_cons]; omega
            have hp1 : I1 130 r.length = if x = true then 1 else 0 := hp.1
            have hx2 : 0 ≤ I1 130 r.length ∧ I1 130 r.length ≤ 1 := by rw [hp1]; split <;> omega
            have := ih ((!x) :: r) (k + 1) (upI I1 130 r.length (1 - I1 130 r.length)) (fun c hc => (upI_ne hc).trans (hf c hc)) (by omega) hk2 hcat2 hs ⟨by rw [upI_at, if_pos rfl, hp1]; cases x <;> rfl, pst_up (g := I1 130) (n := r.length) r (Int.le_refl _) (fun j hj => by rw [upI_at, if_neg (by omega)]) hp.2⟩ (Or.inl hw0.2) (by rw [← hz, hev]; rfl)
            have hl5 : (((!x) :: r).length : Int) = r.length + 1 := by rw [List.length_cons]; omega
            rw [hl5] at this
            have hs2 : (r.length : Int) ≤ 20 := by rw [List.length_cons] at hs; omega
            rw [hl4]
            refine mj_iload hJ dX9_holds_49 rfl ?_
            refine mj_sipush hJ dX9_holds_51 (by decide) ?_
            refine mj_icmp_gt (tgt := 114) hJ dX9_holds_54 (by decide) (fun _ => ?_) (fun hno => absurd (by omega) hno)
            refine mj_iload hJ dX9_holds_114 rfl ?_
            refine mj_sipush hJ dX9_holds_116 (by decide) ?_
            refine mj_icmp_ne (tgt := 145) hJ dX9_holds_119 (by decide) (fun hyes => absurd rfl hyes) (fun _ => ?_)
            refine mj_aload_n hJ dX9_holds_122 rfl ?_
            refine mk_getR hJ dX9_holds_123 fw_X9_65 rfl (by decide) rfl rfl ?_
            refine mj_iload hJ dX9_holds_126 rfl ?_
            refine mj_iconst hJ dX9_holds_128 (by decide) ?_
            first | refine ms_isub hJ dX9_holds_129 (by omega) ?_ | refine mj_isub hJ dX9_holds_129 ?_
            refine mj_iconst hJ dX9_holds_130 (by decide) ?_
            refine mj_aload_n hJ dX9_holds_131 rfl ?_
            refine mk_getR hJ dX9_holds_132 fw_X9_65 rfl (by decide) rfl rfl ?_
            refine mj_iload hJ dX9_holds_135 rfl ?_
            refine mj_iconst hJ dX9_holds_137 (by decide) ?_
            first | refine ms_isub hJ dX9_holds_138 (by omega) ?_ | refine mj_isub hJ dX9_holds_138 ?_
            refine mk_iald hJ dX9_holds_139 rfl (by omega) (by omega) ?_
            rw [show (r.length : Int) + 1 - 1 = r.length by omega]
            first | refine ms_isub hJ dX9_holds_140 (by omega) ?_ | refine mj_isub hJ dX9_holds_140 ?_
            refine mk_iast hJ dX9_holds_141 rfl (by omega) (by omega) ?_
            refine mj_goto (tgt := 296) hJ dX9_holds_142 (by decide) ?_
            exact K296 _ _ _ _ _ _ _ k0 (by omega) this
        · rw [if_neg h1] at hw0 hev
          match s, hp, hw0, hev, hs with
          | [], _, hw0, _, _ => exact absurd hw0.1 (by simp)
          | [_], _, hw0, _, _ => exact absurd hw0.1 (by simp)
          | y :: x :: r, hp, hw0, hev, hs =>
            have hl4 : ((y :: x :: r).length : Int) = r.length + 2 := by rw [List.length_cons, List.length_cons]; omega
            have hl6 : ((x :: r).length : Int) = r.length + 1 := by rw [List.length_cons]; omega
            have hp1 : I1 130 (r.length + 1) = if y = true then 1 else 0 := by have := hp.1; rw [hl6] at this; exact this
            have hp2 : I1 130 r.length = if x = true then 1 else 0 := hp.2.1
            have hs2 : (r.length : Int) ≤ 20 := by rw [List.length_cons, List.length_cons] at hs; omega
            have hok : -3 ≤ t.2.1 ∧ t.2.1 ≤ -1 := by
              rcases hws.1 with h | h
              · omega
              · exact h
            have hw3 := hw0.2
            rw [hl4, show (r.length : Int) + 2 - 1 = r.length + 1 by omega] at hw3
            have G1 : ∀ z : Bool, (t.2.1 = -2 → z = (x && y)) → (t.2.1 = -3 → z = (x || y)) → J 18 [vr 111, vi l, vi w, vi v, vi c, vi ((r.length : Int) + 1), vi (k + 1), vu, vu, vu, vu] [] (mk (upI I1 130 r.length (if z = true then 1 else 0)) b) := by
              intro z z1 z2
              have hl5 : ((z :: r).length : Int) = r.length + 1 := by rw [List.length_cons]; omega
              have := ih (z :: r) (k + 1) (upI I1 130 r.length (if z = true then 1 else 0)) (fun c hc => (upI_ne hc).trans (hf c hc)) (by omega) hk2 hcat2 (by rw [List.length_cons]; omega) ⟨by rw [upI_at, if_pos rfl], pst_up (g := I1 130) (n := r.length) r (Int.le_refl _) (fun j hj => by rw [upI_at, if_neg (by omega)]) hp.2.2⟩ (Or.inl (by rw [hl5]; exact hw3)) (by
                rw [← hz, hev]
                by_cases h2 : t.2.1 = -2
                · rw [if_pos h2, z1 h2]
                  rfl
                · rw [if_neg h2, z2 (by omega)]
                  rfl)
              rw [hl5] at this
              exact this
            rw [hl4]
            by_cases h2 : t.2.1 = -2
            · refine OP r.length k _ (if x = true then 1 else 0) (if y = true then 1 else 0) (if (x && y) = true then 1 else 0) I1 (by omega) (by omega) k0 (by omega) hp2 hp1 (by split <;> omega) (by split <;> omega) (Or.inr (Or.inr (Or.inr (Or.inl ⟨by omega, ?_⟩)))) (G1 _ (fun _ => rfl) (fun q => by omega))
              cases x <;> cases y <;> rfl
            · refine OP r.length k _ (if x = true then 1 else 0) (if y = true then 1 else 0) (if (x || y) = true then 1 else 0) I1 (by omega) (by omega) k0 (by omega) hp2 hp1 (by split <;> omega) (by split <;> omega) (Or.inr (Or.inr (Or.inr (Or.inr ⟨by omega, ?_⟩)))) (G1 _ (fun q => by omega) (fun _ => rfl))
              cases x <;> cases y <;> rfl
  refine mj_iconst hJ dX9_holds_0 (by decide) ?_
  refine ms_istore (ls' := [_, _, _, _, _, _, _, _, _, _, _]) hJ dX9_holds_1 (by decide) rfl rfl ?_
  refine mj_aload_n hJ dX9_holds_3 rfl ?_
  refine mk_getR hJ dX9_holds_4 fw_X9_9 rfl (by decide) rfl rfl ?_
  refine mj_bipush hJ dX9_holds_7 (by decide) ?_
  refine mj_iconst hJ dX9_holds_9 (by decide) ?_
  refine mj_iload_n hJ dX9_holds_10 rfl ?_
  first | refine ms_imul hJ dX9_holds_11 (by omega) ?_ | refine mj_imul hJ dX9_holds_11 ?_
  first | refine ms_iadd hJ dX9_holds_12 (by omega) ?_ | refine mj_iadd hJ dX9_holds_12 ?_
  refine mj_iconst hJ dX9_holds_13 (by decide) ?_
  first | refine ms_iadd hJ dX9_holds_14 (by omega) ?_ | refine mj_iadd hJ dX9_holds_14 ?_
  refine mk_iald hJ dX9_holds_15 rfl (by omega) (by omega) ?_
  rw [e2]
  refine ms_istore (ls' := [_, _, _, _, _, _, _, _, _, _, _]) hJ dX9_holds_16 (by decide) rfl rfl ?_
  refine LOOP S [] p I (fun _ _ => rfl) p0 hE hc (by simp) trivial ?_ rfl
  rcases hS with h | h
  · exact Or.inr ⟨h, rfl⟩
  · exact Or.inl h
end M16
