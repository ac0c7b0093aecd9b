section M9
variable {G : GE} {I : Ints} {b : Bool}
/-- what the model's tables hold of the villages from v on -/
def cT (f : Int → Int) (A : Int) (I1 : Ints) (v : Int) : Prop :=
  ∀ w : Int, v ≤ w → w ≤ f 0 - 1 → ∀ p : Int, 0 ≤ p → p ≤ A - dq f w → I1 121 (130 * w + p) = (cl f (lmA f A) (f 0 - 1 - w).toNat w p).1 ∧ I1 122 (130 * w + p) = (cl f (lmA f A) (f 0 - 1 - w).toNat w p).2
theorem c_X9_findCleaning (hw : WN (I 112)) : MtV G yX9_findCleaning cX9_findCleaning 10 2 [vr 111] I b (fun I' b' => b' = b ∧ (∀ c, c ≠ 121 → c ≠ 122 → I' c = I c) ∧ cT (I 112) (sq (dq (I 112)) 0 (I 112 0).toNat) I' 0) := by
  refine mt_enterV (own := RX9) (ls0 := [vr 111, vu, vu, vu, vu, vu, vu, vu, vu, vu]) rfl (by decide +kernel) (Nat.le_of_ble_eq_true rfl) rfl (fun J hJ hR => ?_)
  have hn := hw.nv
  generalize hA : sq (dq (I 112)) 0 (I 112 0).toNat = A
  have sb := sd_bd hw (I 112 0).toNat (by omega)
  rw [hA] at sb
  have A0 : 0 ≤ A := by rw [← hA]; exact (sd_mono hw (I 112 0).toNat 0 (by omega)).1
  have dA : ∀ v : Int, 0 ≤ v → v < I 112 0 → 0 ≤ dq (I 112) v ∧ dq (I 112) v ≤ 20 ∧ dq (I 112) v ≤ A ∧ 0 ≤ lmq (I 112) v ∧ lmq (I 112) v ≤ 99 ∧ 0 ≤ clq (I 112) v ∧ clq (I 112) v ≤ 9 := fun v v0 v1 => by
    have fa := hw.fact v0 (show v < 6 by omega)
    have a1 := sd_mono hw v.toNat 0 (by omega)
    have a2 := sd_mono hw (v.toNat + 1) ((I 112 0).toNat - (v.toNat + 1)) (by omega)
    rw [show v.toNat + 1 + ((I 112 0).toNat - (v.toNat + 1)) = (I 112 0).toNat by omega, hA] at a2
    have e : sq (dq (I 112)) 0 (v.toNat + 1) = sq (dq (I 112)) 0 v.toNat + dq (I 112) (0 + (v.toNat : Int)) := rfl
    rw [show (0 : Int) + (v.toNat : Int) = v by omega] at e
    exact ⟨fa.2.2.2.1.1, fa.2.2.2.1.2, by omega, fa.2.2.2.2.1.1, fa.2.2.2.2.1.2, fa.2.2.2.2.2.1, fa.2.2.2.2.2.2⟩
  have lA : ∀ v : Int, 0 ≤ v → v < I 112 0 → 0 ≤ lmA (I 112) A v ∧ lmA (I 112) A v ≤ A - dq (I 112) v := fun v v0 v1 => by
    have := dA v v0 v1
    unfold lmA
    split <;> omega
  -- the uses of what is there
  have L5 : ∀ (v p t : Int), 0 ≤ v → v < I 112 0 → 0 ≤ p → p + dq (I 112) v ≤ A → t = p + dq (I 112) v →
      ∀ (m : Nat) (c best : Int) (I1 : Ints), 0 ≤ c → c + m = t + 1 → (∀ x, x ≠ 121 → x ≠ 122 → I1 x = I x) → cT (I 112) A I1 (v + 1) → (∀ p', 0 ≤ p' → p' ≤ A → I1 121 (130 * I 112 0 + p') = 0) →
      (c ≤ msl (lmA (I 112) A) (I 112 0 - 1) v t → best = -1) → (msl (lmA (I 112) A) (I 112 0 - 1) v t < c → best = (scm (hcl (I 112) (lmA (I 112) A) (I 112 0 - 1) v t) (msl (lmA (I 112) A) (I 112 0 - 1) v t) (c - 1 - msl (lmA (I 112) A) (I 112 0 - 1) v t).toNat).1 ∧ I1 122 (130 * v + p) = (scm (hcl (I 112) (lmA (I 112) A) (I 112 0 - 1) v t) (msl (lmA (I 112) A) (I 112 0 - 1) v t) (c - 1 - msl (lmA (I 112) A) (I 112 0 - 1) v t).toNat).2) →
      (∀ I2 : Ints, (∀ x, x ≠ 122 → I2 x = I1 x) → (∀ j, j ≠ 130 * v + p → I2 122 j = I1 122 j) → I2 122 (130 * v + p) = (cl (I 112) (lmA (I 112) A) (I 112 0 - 1 - v).toNat v p).2 → J 234 [vr 111, vi (I 112 0), vi A, vi v, vi p, vu, vi (cl (I 112) (lmA (I 112) A) (I 112 0 - 1 - v).toNat v p).1, vu, vu, vu] [] (mk I2 b)) →
      J 98 [vr 111, vi (I 112 0), vi A, vi v, vi p, vi t, vi best, vi c, vu, vu] [] (mk I1 b) := by
    intro v p t v0 v1 p0 p1 ht m
    have dv := dA v v0 v1
    have hmb : 0 ≤ msl (lmA (I 112) A) (I 112 0 - 1) v t ∧ msl (lmA (I 112) A) (I 112 0 - 1) v t ≤ t := by
      unfold msl
      split
      · exact mst_bd (by omega) (lA (v + 1) (by omega) (by omega)).1
      · omega
    have ecl := cl_h (f := I 112) (lm := lmA (I 112) A) (l := I 112 0 - 1) (v := v) (p := p) (by omega)
    rw [← ht] at ecl
    generalize hM : msl (lmA (I 112) A) (I 112 0 - 1) v t = M at hmb ecl
    induction m with
    | zero =>
      intro c best I1 c0 cm hf hT hz hb1 hb2 kk
      have hb2 := hb2 (by omega)
      rw [show c - 1 - M = t - M by omega] at hb2
      rw [← ecl] at hb2
      refine mj_iload hJ dX9_findCleaning_98 rfl ?_
      refine mj_iload hJ dX9_findCleaning_100 rfl ?_
      refine mj_icmp_gt (tgt := 234) hJ dX9_findCleaning_102 (by decide) (fun _ => ?_) (fun hno => absurd (by omega) hno)
      refine mj_drop (ls' := [_, _, _, _, _, vu, _, vu, vu, vu]) hJ ⟨Or.inl rfl, Or.inl rfl, Or.inl rfl, Or.inl rfl, Or.inl rfl, Or.inr rfl, Or.inl rfl, Or.inr rfl, Or.inr rfl, Or.inr rfl, trivial⟩ ?_
      rw [hb2.1]
      exact kk I1 (fun _ _ => rfl) (fun _ _ => rfl) hb2.2
    | succ m ih =>
      intro c best I1 c0 cm hf hT hz hb1 hb2 kk
      have e112 := hf 112 (by decide) (by decide)
      have hcb : ∀ k : Nat, k ≤ t - M → 0 ≤ (scm (hcl (I 112) (lmA (I 112) A) (I 112 0 - 1) v t) M k).1 ∧ (scm (hcl (I 112) (lmA (I 112) A) (I 112 0 - 1) v t) M k).1 ≤ 8000 := by
        intro k hk
        obtain ⟨u, u0, u1, eu⟩ := scm_mem (hcl (I 112) (lmA (I 112) A) (I 112 0 - 1) v t) M k
        rw [eu]
        show 0 ≤ hcl (I 112) (lmA (I 112) A) (I 112 0 - 1) v t u ∧ hcl (I 112) (lmA (I 112) A) (I 112 0 - 1) v t u ≤ 8000
        have mb := mul_bd (a := u) (b := clq (I 112) v) (A := 120) (B := 9) (by omega) (by omega) dv.2.2.2.2.2.1 dv.2.2.2.2.2.2
        unfold hcl
        split
        · have hl := lA (v + 1) (by omega) (by omega)
          have hmm : t - lmA (I 112) A (v + 1) ≤ M := by rw [← hM]; unfold msl mst; rw [if_pos (by omega)]; split <;> omega
          have cb := cl_bd (lm := lmA (I 112) A) hw (A := A) (by omega) (I 112 0 - 1 - (v + 1)).toNat (v + 1) (t - u) (by omega) (by omega) (by omega) (by omega) (fun i x y => lA i (by omega) (by omega))
          omega
        · omega
      have nxt : ∀ (I3 : Ints) (best' : Int), (∀ x, x ≠ 122 → I3 x = I1 x) → (∀ j, j ≠ 130 * v + p → I3 122 j = I1 122 j) →
          (c + 1 ≤ M → best' = -1) → (M < c + 1 → best' = (scm (hcl (I 112) (lmA (I 112) A) (I 112 0 - 1) v t) M (c - M).toNat).1 ∧ I3 122 (130 * v + p) = (scm (hcl (I 112) (lmA (I 112) A) (I 112 0 - 1) v t) M (c - M).toNat).2) →
          ∀ l8 l9, J 228 [vr 111, vi (I 112 0), vi A, vi v, vi p, vi t, vi best', vi c, vi l8, vi l9] [] (mk I3 b) := by
        intro I3 best' g1 g2 g3 g4 l8 l9
        refine ms_iinc (ls' := [_, _, _, _, _, _, _, _, _, _]) hJ dX9_findCleaning_228 rfl (by decide) rfl (wr_id (by omega)) rfl ?_
        refine mj_goto (tgt := 98) hJ dX9_findCleaning_231 (by decide) ?_
        refine mj_drop (ls' := [_, _, _, _, _, _, _, _, vu, vu]) hJ ⟨Or.inl rfl, Or.inl rfl, Or.inl rfl, Or.inl rfl, Or.inl rfl, Or.inl rfl, Or.inl rfl, Or.inl rfl, Or.inr rfl, Or.inr rfl, trivial⟩ ?_
        refine ih (c + 1) best' I3 (by omega) (by omega) (fun x x1 x2 => (g1 x x2).trans (hf x x1 x2)) (fun w w0 w1 q q0 q1 => ?_) (fun q q0 q1 => by rw [g1 121 (by decide)]; exact hz q q0 q1) g3 (fun z => by rw [show c + 1 - 1 - M = c - M by omega]; exact g4 z) (fun I2 k1 k2 k3 => kk I2 (fun x hx => (k1 x hx).trans (g1 x hx)) (fun j hj => (k2 j hj).trans (g2 j hj)) k3)
        have dw := dA w (by omega) (by omega)
        rw [g1 121 (by decide), g2 _ (by omega)]
        exact hT w w0 w1 q q0 q1
      -- it may not
      have no : c < M → J 151 [vr 111, vi (I 112 0), vi A, vi v, vi p, vi t, vi best, vi c, vu, vu] [vi 0] (mk I1 b) := by
        intro hc
        refine ms_istore (ls' := [_, _, _, _, _, _, _, _, _, _]) hJ dX9_findCleaning_151 (by decide) rfl rfl ?_
        refine mj_iload hJ dX9_findCleaning_153 rfl ?_
        refine mj_if_eq (tgt := 189) hJ dX9_findCleaning_155 (by decide) (fun _ => ?_) (fun hno => absurd rfl hno)
        refine mj_iconst hJ dX9_findCleaning_189 (by decide) ?_
        refine ms_istore (ls' := [_, _, _, _, _, _, _, _, _, _]) hJ dX9_findCleaning_190 (by decide) rfl rfl ?_
        refine mj_iload hJ dX9_findCleaning_192 rfl ?_
        refine mj_if_eq (tgt := 228) hJ dX9_findCleaning_194 (by decide) (fun _ => ?_) (fun hno => absurd rfl hno)
        exact nxt I1 best (fun _ _ => rfl) (fun _ _ => rfl) (fun _ => hb1 (by omega)) (fun q => absurd q (by omega)) _ _
      have yes : M ≤ c → J 151 [vr 111, vi (I 112 0), vi A, vi v, vi p, vi t, vi best, vi c, vu, vu] [vi 1] (mk I1 b) := by
        intro hc
        have mb := mul_bd (a := c) (b := clq (I 112) v) (A := 120) (B := 9) c0 (by omega) dv.2.2.2.2.2.1 dv.2.2.2.2.2.2
        have rd : I1 121 (130 * (v + 1) + (t - c)) = (if v < I 112 0 - 1 then (cl (I 112) (lmA (I 112) A) (I 112 0 - 1 - (v + 1)).toNat (v + 1) (t - c)).1 else 0) ∧ 0 ≤ I1 121 (130 * (v + 1) + (t - c)) ∧ I1 121 (130 * (v + 1) + (t - c)) ≤ 6500 := by
          by_cases z : v < I 112 0 - 1
          · rw [if_pos z]
            have hl := lA (v + 1) (by omega) (by omega)
            have hmm : t - lmA (I 112) A (v + 1) ≤ M := by rw [← hM]; unfold msl mst; rw [if_pos (by omega)]; split <;> omega
            have cb := cl_bd (lm := lmA (I 112) A) hw (A := A) (by omega) (I 112 0 - 1 - (v + 1)).toNat (v + 1) (t - c) (by omega) (by omega) (by omega) (by omega) (fun i x y => lA i (by omega) (by omega))
            have := (hT (v + 1) (by omega) (by omega) (t - c) (by omega) (by omega)).1
            omega
          · rw [if_neg z]
            have := hz (t - c) (by omega) (by omega)
            rw [show 130 * (v + 1) + (t - c) = 130 * I 112 0 + (t - c) by omega]
            omega
        have eh : c * clq (I 112) v + I1 121 (130 * (v + 1) + (t - c)) = hcl (I 112) (lmA (I 112) A) (I 112 0 - 1) v t c := by
          rw [rd.1]
          rfl
        refine ms_istore (ls' := [_, _, _, _, _, _, _, _, _, _]) hJ dX9_findCleaning_151 (by decide) rfl rfl ?_
        refine mj_iload hJ dX9_findCleaning_153 rfl ?_
        refine mj_if_eq (tgt := 189) hJ dX9_findCleaning_155 (by decide) (fun hyes => absurd hyes (by decide)) (fun _ => ?_)
        refine mj_iload hJ dX9_findCleaning_158 rfl ?_
        refine mj_aload_n hJ dX9_findCleaning_160 rfl ?_
        refine mj_iload_n hJ dX9_findCleaning_161 rfl ?_
        refine mj_iconst hJ dX9_findCleaning_162 (by decide) ?_
        refine mk_Vp2 hJ dX9_findCleaning_163 cw_X9_116 rfl rfl rfl rfl (Nat.le_of_ble_eq_true rfl) (by decide) (c_X9_of v 5 (by omega) (by omega) (by omega) (by omega)) ?_
        rw [e112, show I 112 (10 + 18 * v + 5) = clq (I 112) v from rfl]
        first | refine ms_imul hJ dX9_findCleaning_166 (by omega) ?_ | refine mj_imul hJ dX9_findCleaning_166 ?_
        refine mj_aload_n hJ dX9_findCleaning_167 rfl ?_
        refine mk_getR hJ dX9_findCleaning_168 fw_X9_37 rfl (by decide) rfl rfl ?_
        refine mj_sipush hJ dX9_findCleaning_171 (by decide) ?_
        refine mj_iload_n hJ dX9_findCleaning_174 rfl ?_
        refine mj_iconst hJ dX9_findCleaning_175 (by decide) ?_
        first | refine ms_iadd hJ dX9_findCleaning_176 (by omega) ?_ | refine mj_iadd hJ dX9_findCleaning_176 ?_
        first | refine ms_imul hJ dX9_findCleaning_177 (by omega) ?_ | refine mj_imul hJ dX9_findCleaning_177 ?_
        refine mj_iload hJ dX9_findCleaning_178 rfl ?_
        first | refine ms_iadd hJ dX9_findCleaning_180 (by omega) ?_ | refine mj_iadd hJ dX9_findCleaning_180 ?_
        refine mj_iload hJ dX9_findCleaning_181 rfl ?_
        first | refine ms_isub hJ dX9_findCleaning_183 (by omega) ?_ | refine mj_isub hJ dX9_findCleaning_183 ?_
        rw [show 130 * (v + 1) + t - c = 130 * (v + 1) + (t - c) by omega]
        refine mk_iald hJ dX9_findCleaning_184 rfl (by omega) (by omega) ?_
        first | refine ms_iadd hJ dX9_findCleaning_185 (by omega) ?_ | refine mj_iadd hJ dX9_findCleaning_185 ?_
        rw [eh]
        refine mj_goto (tgt := 190) hJ dX9_findCleaning_186 (by decide) ?_
        refine ms_istore (ls' := [_, _, _, _, _, _, _, _, _, _]) hJ dX9_findCleaning_190 (by decide) rfl rfl ?_
        refine mj_iload hJ dX9_findCleaning_192 rfl ?_
        refine mj_if_eq (tgt := 228) hJ dX9_findCleaning_194 (by decide) (fun hyes => absurd hyes (by decide)) (fun _ => ?_)
        refine mj_iload hJ dX9_findCleaning_197 rfl ?_
        have take : scm (hcl (I 112) (lmA (I 112) A) (I 112 0 - 1) v t) M (c - M).toNat = (hcl (I 112) (lmA (I 112) A) (I 112 0 - 1) v t c, c) → J 209 [vr 111, vi (I 112 0), vi A, vi v, vi p, vi t, vi best, vi c, vi 1, vi (hcl (I 112) (lmA (I 112) A) (I 112 0 - 1) v t c)] [] (mk I1 b) := by
          intro es
          refine mj_iload hJ dX9_findCleaning_209 rfl ?_
          refine ms_istore (ls' := [_, _, _, _, _, _, _, _, _, _]) hJ dX9_findCleaning_211 (by decide) rfl rfl ?_
          refine mj_aload_n hJ dX9_findCleaning_213 rfl ?_
          refine mk_getR hJ dX9_findCleaning_214 fw_X9_40 rfl (by decide) rfl rfl ?_
          refine mj_sipush hJ dX9_findCleaning_217 (by decide) ?_
          refine mj_iload_n hJ dX9_findCleaning_220 rfl ?_
          first | refine ms_imul hJ dX9_findCleaning_221 (by omega) ?_ | refine mj_imul hJ dX9_findCleaning_221 ?_
          refine mj_iload hJ dX9_findCleaning_222 rfl ?_
          first | refine ms_iadd hJ dX9_findCleaning_224 (by omega) ?_ | refine mj_iadd hJ dX9_findCleaning_224 ?_
          refine mj_iload hJ dX9_findCleaning_225 rfl ?_
          refine mk_iast hJ dX9_findCleaning_227 rfl (by omega) (by omega) ?_
          exact nxt _ _ (fun x hx => upI_ne hx) (fun j hj => by rw [upI_at, if_neg hj]) (fun q => absurd q (by omega)) (fun _ => by
            rw [es, upI_at, if_pos rfl]
            exact ⟨rfl, rfl⟩) _ _
        by_cases hcM : c = M
        · have hb1 := hb1 (by omega)
          refine mj_if_lt (tgt := 209) hJ dX9_findCleaning_199 (by decide) (fun _ => ?_) (fun hno => absurd (by omega) hno)
          refine take ?_
          rw [show (c - M).toNat = 0 by omega]
          show (hcl _ _ _ _ _ M, M) = _
          rw [hcM]
        · have hb2 := hb2 (by omega)
          have hb3 := hcb (c - 1 - M).toNat (by omega)
          have ek : (c - M).toNat = (c - 1 - M).toNat + 1 := by omega
          have st : scm (hcl (I 112) (lmA (I 112) A) (I 112 0 - 1) v t) M (c - M).toNat = if hcl (I 112) (lmA (I 112) A) (I 112 0 - 1) v t c < (scm (hcl (I 112) (lmA (I 112) A) (I 112 0 - 1) v t) M (c - 1 - M).toNat).1 then (hcl (I 112) (lmA (I 112) A) (I 112 0 - 1) v t c, c) else scm (hcl (I 112) (lmA (I 112) A) (I 112 0 - 1) v t) M (c - 1 - M).toNat := by
            rw [ek]
            show (if hcl _ _ _ _ _ (M + (((c - 1 - M).toNat : Int) + 1)) < _ then (hcl _ _ _ _ _ (M + (((c - 1 - M).toNat : Int) + 1)), M + (((c - 1 - M).toNat : Int) + 1)) else _) = _
            rw [show M + (((c - 1 - M).toNat : Int) + 1) = c by omega]
          rw [← hb2.1] at hb3
          refine mj_if_lt (tgt := 209) hJ dX9_findCleaning_199 (by decide) (fun hyes => absurd hyes (by omega)) (fun _ => ?_)
          refine mj_iload hJ dX9_findCleaning_202 rfl ?_
          refine mj_iload hJ dX9_findCleaning_204 rfl ?_
          refine mj_icmp_ge (tgt := 228) hJ dX9_findCleaning_206 (by decide) (fun hlt => ?_) (fun hlt => ?_)
          · rw [if_neg (by rw [← hb2.1]; omega)] at st
            exact nxt I1 best (fun _ _ => rfl) (fun _ _ => rfl) (fun q => absurd q (by omega)) (fun _ => by rw [st]; exact hb2) _ _
          · rw [if_pos (by rw [← hb2.1]; omega)] at st
            exact take st
      refine mj_iload hJ dX9_findCleaning_98 rfl ?_
      refine mj_iload hJ dX9_findCleaning_100 rfl ?_
      refine mj_icmp_gt (tgt := 234) hJ dX9_findCleaning_102 (by decide) (fun hyes => absurd hyes (by omega)) (fun _ => ?_)
      refine mj_iload_n hJ dX9_findCleaning_105 rfl ?_
      refine mj_iload_n hJ dX9_findCleaning_106 rfl ?_
      refine mj_iconst hJ dX9_findCleaning_107 (by decide) ?_
      first | refine ms_isub hJ dX9_findCleaning_108 (by omega) ?_ | refine mj_isub hJ dX9_findCleaning_108 ?_
      refine mj_icmp_eq (tgt := 146) hJ dX9_findCleaning_109 (by decide) (fun hl => ?_) (fun hl => ?_)
      · refine mj_iconst hJ dX9_findCleaning_146 (by decide) ?_
        refine mj_goto (tgt := 151) hJ dX9_findCleaning_147 (by decide) ?_
        refine yes ?_
        have : M = 0 := by rw [← hM]; unfold msl; rw [if_neg (by omega)]
        omega
      · have d1 := dA (v + 1) (by omega) (by omega)
        have eM : M = if 0 < t - lmA (I 112) A (v + 1) then t - lmA (I 112) A (v + 1) else 0 := by rw [← hM]; unfold msl mst; rw [if_pos (by omega)]
        have eL : lmA (I 112) A (v + 1) = if lmq (I 112) (v + 1) < A - dq (I 112) (v + 1) then lmq (I 112) (v + 1) else A - dq (I 112) (v + 1) := rfl
        refine mj_iload hJ dX9_findCleaning_112 rfl ?_
        refine mj_iload hJ dX9_findCleaning_114 rfl ?_
        first | refine ms_isub hJ dX9_findCleaning_116 (by omega) ?_ | refine mj_isub hJ dX9_findCleaning_116 ?_
        refine mj_aload_n hJ dX9_findCleaning_117 rfl ?_
        refine mj_iload_n hJ dX9_findCleaning_118 rfl ?_
        refine mj_iconst hJ dX9_findCleaning_119 (by decide) ?_
        first | refine ms_iadd hJ dX9_findCleaning_120 (by omega) ?_ | refine mj_iadd hJ dX9_findCleaning_120 ?_
        refine mj_iconst hJ dX9_findCleaning_121 (by decide) ?_
        refine mk_Vp2 hJ dX9_findCleaning_122 cw_X9_116 rfl rfl rfl rfl (Nat.le_of_ble_eq_true rfl) (by decide) (c_X9_of (v + 1) 4 (by omega) (by omega) (by omega) (by omega)) ?_
        rw [e112, show I 112 (10 + 18 * (v + 1) + 4) = lmq (I 112) (v + 1) from rfl]
        refine mj_icmp_gt (tgt := 150) hJ dX9_findCleaning_125 (by decide) (fun h1 => ?_) (fun h1 => ?_)
        · refine mj_iconst hJ dX9_findCleaning_150 (by decide) ?_
          refine no ?_
          split at eL <;> split at eM <;> omega
        · refine mj_iload hJ dX9_findCleaning_128 rfl ?_
          refine mj_iload hJ dX9_findCleaning_130 rfl ?_
          first | refine ms_isub hJ dX9_findCleaning_132 (by omega) ?_ | refine mj_isub hJ dX9_findCleaning_132 ?_
          refine mj_iload_n hJ dX9_findCleaning_133 rfl ?_
          refine mj_aload_n hJ dX9_findCleaning_134 rfl ?_
          refine mj_iload_n hJ dX9_findCleaning_135 rfl ?_
          refine mj_iconst hJ dX9_findCleaning_136 (by decide) ?_
          first | refine ms_iadd hJ dX9_findCleaning_137 (by omega) ?_ | refine mj_iadd hJ dX9_findCleaning_137 ?_
          refine mj_iconst hJ dX9_findCleaning_138 (by decide) ?_
          refine mk_Vp2 hJ dX9_findCleaning_139 cw_X9_116 rfl rfl rfl rfl (Nat.le_of_ble_eq_true rfl) (by decide) (c_X9_of (v + 1) 3 (by omega) (by omega) (by omega) (by omega)) ?_
          rw [e112, show I 112 (10 + 18 * (v + 1) + 3) = dq (I 112) (v + 1) from rfl]
          first | refine ms_isub hJ dX9_findCleaning_142 (by omega) ?_ | refine mj_isub hJ dX9_findCleaning_142 ?_
          refine mj_icmp_gt (tgt := 150) hJ dX9_findCleaning_143 (by decide) (fun h2 => ?_) (fun h2 => ?_)
          · refine mj_iconst hJ dX9_findCleaning_150 (by decide) ?_
            refine no ?_
            split at eL <;> split at eM <;> omega
          · refine mj_iconst hJ dX9_findCleaning_146 (by decide) ?_
            refine mj_goto (tgt := 151) hJ dX9_findCleaning_147 (by decide) ?_
            refine yes ?_
            split at eL <;> split at eM <;> omega
  -- all that can come past the one above v
  have L4 : ∀ (v : Int), 0 ≤ v → v < I 112 0 → (∀ I2 : Ints, (∀ x, x ≠ 121 → x ≠ 122 → I2 x = I x) → cT (I 112) A I2 v → (∀ p', 0 ≤ p' → p' ≤ A → I2 121 (130 * I 112 0 + p') = 0) → J 255 [vr 111, vi (I 112 0), vi A, vi v, vu, vu, vu, vu, vu, vu] [] (mk I2 b)) →
      ∀ (m : Nat) (p : Int) (I1 : Ints), 0 ≤ p → p + m = A - dq (I 112) v + 1 → (∀ x, x ≠ 121 → x ≠ 122 → I1 x = I x) → cT (I 112) A I1 (v + 1) → (∀ p', 0 ≤ p' → p' ≤ A → I1 121 (130 * I 112 0 + p') = 0) →
      (∀ q, 0 ≤ q → q < p → I1 121 (130 * v + q) = (cl (I 112) (lmA (I 112) A) (I 112 0 - 1 - v).toNat v q).1 ∧ I1 122 (130 * v + q) = (cl (I 112) (lmA (I 112) A) (I 112 0 - 1 - v).toNat v q).2) →
      J 68 [vr 111, vi (I 112 0), vi A, vi v, vi p, vu, vu, vu, vu, vu] [] (mk I1 b) := by
    intro v v0 v1 kk m
    have dv := dA v v0 v1
    induction m with
    | zero =>
      intro p I1 p0 pm hf hT hz hB
      have e112 := hf 112 (by decide) (by decide)
      refine mj_iload hJ dX9_findCleaning_68 rfl ?_
      refine mj_iload_n hJ dX9_findCleaning_70 rfl ?_
      refine mj_aload_n hJ dX9_findCleaning_71 rfl ?_
      refine mj_iload_n hJ dX9_findCleaning_72 rfl ?_
      refine mj_iconst hJ dX9_findCleaning_73 (by decide) ?_
      refine mk_Vp2 hJ dX9_findCleaning_74 cw_X9_116 rfl rfl rfl rfl (Nat.le_of_ble_eq_true rfl) (by decide) (c_X9_of v 3 (by omega) (by omega) (by omega) (by omega)) ?_
      rw [e112, show I 112 (10 + 18 * v + 3) = dq (I 112) v from rfl]
      first | refine ms_isub hJ dX9_findCleaning_77 (by omega) ?_ | refine mj_isub hJ dX9_findCleaning_77 ?_
      refine mj_icmp_gt (tgt := 255) hJ dX9_findCleaning_78 (by decide) (fun _ => ?_) (fun hno => absurd (by omega) hno)
      refine mj_drop (ls' := [_, _, _, _, vu, vu, vu, vu, vu, vu]) hJ ⟨Or.inl rfl, Or.inl rfl, Or.inl rfl, Or.inl rfl, Or.inr rfl, Or.inr rfl, Or.inr rfl, Or.inr rfl, Or.inr rfl, Or.inr rfl, trivial⟩ ?_
      refine kk I1 hf (fun w w0 w1 q q0 q1 => ?_) hz
      by_cases hwv : w = v
      · subst hwv
        exact hB q q0 (by omega)
      · exact hT w (by omega) w1 q q0 q1
    | succ m ih =>
      intro p I1 p0 pm hf hT hz hB
      have e112 := hf 112 (by decide) (by decide)
      refine mj_iload hJ dX9_findCleaning_68 rfl ?_
      refine mj_iload_n hJ dX9_findCleaning_70 rfl ?_
      refine mj_aload_n hJ dX9_findCleaning_71 rfl ?_
      refine mj_iload_n hJ dX9_findCleaning_72 rfl ?_
      refine mj_iconst hJ dX9_findCleaning_73 (by decide) ?_
      refine mk_Vp2 hJ dX9_findCleaning_74 cw_X9_116 rfl rfl rfl rfl (Nat.le_of_ble_eq_true rfl) (by decide) (c_X9_of v 3 (by omega) (by omega) (by omega) (by omega)) ?_
      rw [e112, show I 112 (10 + 18 * v + 3) = dq (I 112) v from rfl]
      first | refine ms_isub hJ dX9_findCleaning_77 (by omega) ?_ | refine mj_isub hJ dX9_findCleaning_77 ?_
      refine mj_icmp_gt (tgt := 255) hJ dX9_findCleaning_78 (by decide) (fun hyes => absurd hyes (by omega)) (fun _ => ?_)
      refine mj_iload hJ dX9_findCleaning_81 rfl ?_
      refine mj_aload_n hJ dX9_findCleaning_83 rfl ?_
      refine mj_iload_n hJ dX9_findCleaning_84 rfl ?_
      refine mj_iconst hJ dX9_findCleaning_85 (by decide) ?_
      refine mk_Vp2 hJ dX9_findCleaning_86 cw_X9_116 rfl rfl rfl rfl (Nat.le_of_ble_eq_true rfl) (by decide) (c_X9_of v 3 (by omega) (by omega) (by omega) (by omega)) ?_
      rw [e112, show I 112 (10 + 18 * v + 3) = dq (I 112) v from rfl]
      first | refine ms_iadd hJ dX9_findCleaning_89 (by omega) ?_ | refine mj_iadd hJ dX9_findCleaning_89 ?_
      refine ms_istore (ls' := [_, _, _, _, _, _, _, _, _, _]) hJ dX9_findCleaning_90 (by decide) rfl rfl ?_
      refine mj_iconst hJ dX9_findCleaning_92 (by decide) ?_
      refine ms_istore (ls' := [_, _, _, _, _, _, _, _, _, _]) hJ dX9_findCleaning_93 (by decide) rfl rfl ?_
      refine mj_iconst hJ dX9_findCleaning_95 (by decide) ?_
      refine ms_istore (ls' := [_, _, _, _, _, _, _, _, _, _]) hJ dX9_findCleaning_96 (by decide) rfl rfl ?_
      have hmb : 0 ≤ msl (lmA (I 112) A) (I 112 0 - 1) v (p + dq (I 112) v) := by
        unfold msl
        split
        · exact (mst_bd (by omega) (lA (v + 1) (by omega) (by omega)).1).1
        · omega
      refine L5 v p (p + dq (I 112) v) v0 v1 p0 (by omega) rfl (p + dq (I 112) v + 1).toNat 0 (-1) I1 (by omega) (by omega) hf hT hz (fun _ => rfl) (fun q => absurd q (by omega)) (fun I2 g1 g2 g3 => ?_)
      refine mj_aload_n hJ dX9_findCleaning_234 rfl ?_
      refine mk_getR hJ dX9_findCleaning_235 fw_X9_37 rfl (by decide) rfl rfl ?_
      refine mj_sipush hJ dX9_findCleaning_238 (by decide) ?_
      refine mj_iload_n hJ dX9_findCleaning_241 rfl ?_
      first | refine ms_imul hJ dX9_findCleaning_242 (by omega) ?_ | refine mj_imul hJ dX9_findCleaning_242 ?_
      refine mj_iload hJ dX9_findCleaning_243 rfl ?_
      first | refine ms_iadd hJ dX9_findCleaning_245 (by omega) ?_ | refine mj_iadd hJ dX9_findCleaning_245 ?_
      refine mj_iload hJ dX9_findCleaning_246 rfl ?_
      refine mk_iast hJ dX9_findCleaning_248 rfl (by omega) (by omega) ?_
      refine ms_iinc (ls' := [_, _, _, _, _, _, _, _, _, _]) hJ dX9_findCleaning_249 rfl (by decide) rfl (wr_id (by omega)) rfl ?_
      refine mj_goto (tgt := 68) hJ dX9_findCleaning_252 (by decide) ?_
      refine mj_drop (ls' := [_, _, _, _, _, vu, vu, vu, vu, vu]) hJ ⟨Or.inl rfl, Or.inl rfl, Or.inl rfl, Or.inl rfl, Or.inl rfl, Or.inr rfl, Or.inr rfl, Or.inr rfl, Or.inr rfl, Or.inr rfl, trivial⟩ ?_
      refine ih (p + 1) _ (by omega) (by omega) (fun x x1 x2 => (upI_ne x1).trans ((g1 x x2).trans (hf x x1 x2))) (fun w w0 w1 q q0 q1 => ?_) (fun q q0 q1 => ?_) (fun q q0 q1 => ?_)
      · have dw := dA w (by omega) (by omega)
        rw [upI_at, if_neg (by omega), upI_ne (by decide), g1 121 (by decide), g2 _ (by omega)]
        exact hT w w0 w1 q q0 q1
      · rw [upI_at, if_neg (by omega), g1 121 (by decide)]
        exact hz q q0 q1
      · by_cases hqp : q = p
        · subst hqp
          rw [upI_at, if_pos rfl, upI_ne (by decide), g3]
          exact ⟨rfl, rfl⟩
        · rw [upI_at, if_neg (by omega), upI_ne (by decide), g1 121 (by decide), g2 _ (by omega)]
          exact hB q q0 (by omega)
  have L3 : ∀ (n : Nat) (v : Int) (I1 : Ints), v = (n : Int) - 1 → v < I 112 0 → (∀ x, x ≠ 121 → x ≠ 122 → I1 x = I x) → cT (I 112) A I1 (v + 1) → (∀ p', 0 ≤ p' → p' ≤ A → I1 121 (130 * I 112 0 + p') = 0) →
      J 61 [vr 111, vi (I 112 0), vi A, vi v, vu, vu, vu, vu, vu, vu] [] (mk I1 b) := by
    intro n
    induction n with
    | zero =>
      intro v I1 hv hv1 hf hT hz
      refine mj_iload_n hJ dX9_findCleaning_61 rfl ?_
      refine mj_if_lt (tgt := 261) hJ dX9_findCleaning_62 (by decide) (fun _ => ?_) (fun hno => absurd (by omega) hno)
      exact hR _ _ _ _ dX9_findCleaning_261 ⟨rfl, hf, by rw [hA]; exact fun w w0 w1 => hT w (by omega) w1⟩
    | succ n ih =>
      intro v I1 hv hv1 hf hT hz
      have dv := dA v (by omega) hv1
      refine mj_iload_n hJ dX9_findCleaning_61 rfl ?_
      refine mj_if_lt (tgt := 261) hJ dX9_findCleaning_62 (by decide) (fun hyes => absurd hyes (by omega)) (fun _ => ?_)
      refine mj_iconst hJ dX9_findCleaning_65 (by decide) ?_
      refine ms_istore (ls' := [_, _, _, _, _, _, _, _, _, _]) hJ dX9_findCleaning_66 (by decide) rfl rfl ?_
      refine L4 v (by omega) hv1 (fun I2 g1 g2 g3 => ?_) (A - dq (I 112) v + 1).toNat 0 I1 (by omega) (by omega) hf hT hz (fun q q0 q1 => absurd q1 (by omega))
      refine ms_iinc (ls' := [_, _, _, _, _, _, _, _, _, _]) hJ dX9_findCleaning_255 rfl (by decide) rfl (wr_id (by omega)) rfl ?_
      refine mj_goto (tgt := 61) hJ dX9_findCleaning_258 (by decide) ?_
      exact ih (v + -1) I2 (by omega) (by omega) g1 (by rw [show v + -1 + 1 = v by omega]; exact g2) g3
  have L2 : ∀ (m : Nat) (p : Int) (I1 : Ints), 0 ≤ p → p + m = A + 1 → (∀ x, x ≠ 121 → I1 x = I x) → (∀ p', 0 ≤ p' → p' < p → I1 121 (130 * I 112 0 + p') = 0) → J 33 [vr 111, vi (I 112 0), vi A, vi p, vu, vu, vu, vu, vu, vu] [] (mk I1 b) := by
    intro m
    induction m with
    | zero =>
      intro p I1 p0 pm hf hz
      refine mj_iload_n hJ dX9_findCleaning_33 rfl ?_
      refine mj_iload_n hJ dX9_findCleaning_34 rfl ?_
      refine mj_icmp_gt (tgt := 57) hJ dX9_findCleaning_35 (by decide) (fun _ => ?_) (fun hno => absurd (by omega) hno)
      refine mj_iload_n hJ dX9_findCleaning_57 rfl ?_
      refine mj_iconst hJ dX9_findCleaning_58 (by decide) ?_
      first | refine ms_isub hJ dX9_findCleaning_59 (by omega) ?_ | refine mj_isub hJ dX9_findCleaning_59 ?_
      refine ms_istore_n (ls' := [_, _, _, _, _, _, _, _, _, _]) hJ dX9_findCleaning_60 (by decide) rfl rfl ?_
      exact L3 (I 112 0).toNat (I 112 0 - 1) I1 (by omega) (by omega) (fun x x1 _ => hf x x1) (fun w w0 w1 => absurd w0 (by omega)) (fun q q0 q1 => hz q q0 (by omega))
    | succ m ih =>
      intro p I1 p0 pm hf hz
      refine mj_iload_n hJ dX9_findCleaning_33 rfl ?_
      refine mj_iload_n hJ dX9_findCleaning_34 rfl ?_
      refine mj_icmp_gt (tgt := 57) hJ dX9_findCleaning_35 (by decide) (fun hyes => absurd hyes (by omega)) (fun _ => ?_)
      refine mj_aload_n hJ dX9_findCleaning_38 rfl ?_
      refine mk_getR hJ dX9_findCleaning_39 fw_X9_37 rfl (by decide) rfl rfl ?_
      refine mj_sipush hJ dX9_findCleaning_42 (by decide) ?_
      refine mj_iload_n hJ dX9_findCleaning_45 rfl ?_
      first | refine ms_imul hJ dX9_findCleaning_46 (by omega) ?_ | refine mj_imul hJ dX9_findCleaning_46 ?_
      refine mj_iload_n hJ dX9_findCleaning_47 rfl ?_
      first | refine ms_iadd hJ dX9_findCleaning_48 (by omega) ?_ | refine mj_iadd hJ dX9_findCleaning_48 ?_
      refine mj_iconst hJ dX9_findCleaning_49 (by decide) ?_
      refine mk_iast hJ dX9_findCleaning_50 rfl (by omega) (by omega) ?_
      refine ms_iinc (ls' := [_, _, _, _, _, _, _, _, _, _]) hJ dX9_findCleaning_51 rfl (by decide) rfl (wr_id (by omega)) rfl ?_
      refine mj_goto (tgt := 33) hJ dX9_findCleaning_54 (by decide) ?_
      refine ih (p + 1) _ (by omega) (by omega) (fun x hx => (upI_ne hx).trans (hf x hx)) (fun q q0 q1 => ?_)
      rw [upI_at]
      split
      · rfl
      · exact hz q q0 (by omega)
  have L1 : ∀ (m k : Nat), (k + m : Int) = I 112 0 → J 11 [vr 111, vi (I 112 0), vi (sq (dq (I 112)) 0 k), vi k, vu, vu, vu, vu, vu, vu] [] (mk I b) := by
    intro m
    induction m with
    | zero =>
      intro k hk
      refine mj_iload_n hJ dX9_findCleaning_11 rfl ?_
      refine mj_iload_n hJ dX9_findCleaning_12 rfl ?_
      refine mj_icmp_ge (tgt := 31) hJ dX9_findCleaning_13 (by decide) (fun _ => ?_) (fun hno => absurd (by omega) hno)
      rw [show k = (I 112 0).toNat by omega, hA]
      refine mj_iconst hJ dX9_findCleaning_31 (by decide) ?_
      refine ms_istore_n (ls' := [_, _, _, _, _, _, _, _, _, _]) hJ dX9_findCleaning_32 (by decide) rfl rfl ?_
      exact L2 (A + 1).toNat 0 I (by omega) (by omega) (fun _ _ => rfl) (fun q q0 q1 => absurd q1 (by omega))
    | succ m ih =>
      intro k hk
      have dk := dA k (by omega) (by omega)
      have s1 := sd_mono hw k 0 (by omega)
      have s2 := sd_bd hw k (by omega)
      have e : sq (dq (I 112)) 0 (k + 1) = sq (dq (I 112)) 0 k + dq (I 112) (0 + (k : Int)) := rfl
      rw [show (0 : Int) + (k : Int) = k by omega] at e
      refine mj_iload_n hJ dX9_findCleaning_11 rfl ?_
      refine mj_iload_n hJ dX9_findCleaning_12 rfl ?_
      refine mj_icmp_ge (tgt := 31) hJ dX9_findCleaning_13 (by decide) (fun hyes => absurd hyes (by omega)) (fun _ => ?_)
      refine mj_iload_n hJ dX9_findCleaning_16 rfl ?_
      refine mj_aload_n hJ dX9_findCleaning_17 rfl ?_
      refine mj_iload_n hJ dX9_findCleaning_18 rfl ?_
      refine mj_iconst hJ dX9_findCleaning_19 (by decide) ?_
      refine mk_Vp2 hJ dX9_findCleaning_20 cw_X9_116 rfl rfl rfl rfl (Nat.le_of_ble_eq_true rfl) (by decide) (c_X9_of k 3 (by omega) (by omega) (by omega) (by omega)) ?_
      rw [show I 112 (10 + 18 * (k : Int) + 3) = dq (I 112) k from rfl]
      first | refine ms_iadd hJ dX9_findCleaning_23 (by omega) ?_ | refine mj_iadd hJ dX9_findCleaning_23 ?_
      refine ms_istore_n (ls' := [_, _, _, _, _, _, _, _, _, _]) hJ dX9_findCleaning_24 (by decide) rfl rfl ?_
      refine ms_iinc (ls' := [_, _, _, _, _, _, _, _, _, _]) hJ dX9_findCleaning_25 rfl (by decide) rfl (wr_id (by omega)) rfl ?_
      refine mj_goto (tgt := 11) hJ dX9_findCleaning_28 (by decide) ?_
      rw [← e]
      exact ih (k + 1) (by omega)
  refine mj_aload_n hJ dX9_findCleaning_0 rfl ?_
  refine mk_getR hJ dX9_findCleaning_1 fw_X9_9 rfl (by decide) rfl rfl ?_
  refine mj_iconst hJ dX9_findCleaning_4 (by decide) ?_
  refine mk_iald hJ dX9_findCleaning_5 rfl (by omega) (by omega) ?_
  refine ms_istore_n (ls' := [_, _, _, _, _, _, _, _, _, _]) hJ dX9_findCleaning_6 (by decide) rfl rfl ?_
  refine mj_iconst hJ dX9_findCleaning_7 (by decide) ?_
  refine ms_istore_n (ls' := [_, _, _, _, _, _, _, _, _, _]) hJ dX9_findCleaning_8 (by decide) rfl rfl ?_
  refine mj_iconst hJ dX9_findCleaning_9 (by decide) ?_
  refine ms_istore_n (ls' := [_, _, _, _, _, _, _, _, _, _]) hJ dX9_findCleaning_10 (by decide) rfl rfl ?_
  exact L1 (I 112 0).toNat 0 (by omega)
theorem c_X9_cleaning (v : Int) (hw : WN (I 112)) : MtI G yX9_cleaning cX9_cleaning 4 (some .int) 3 [vr 111, vi v] I b (Qs I b (F_cleaning I v)) := by
  refine mt_enterI (own := RX9) (ls0 := [vr 111, vi v, vu, vu]) rfl (by decide +kernel) (Nat.le_of_ble_eq_true rfl) rfl rfl (fun J hJ hR => ?_)
  have hn := hw.nv
  have go : (v = -1 ∨ (0 ≤ v ∧ v < I 112 0)) → J 15 [vr 111, vi v, vu, vu] [] (mk I b) := by
    intro hP
    have eF : F_cleaning I v = if v < 0 then (if I 112 0 = 0 then 0 else (cl (I 112) (lmq (I 112)) (I 112 0 - 1).toNat 0 0).1) else ccl (I 112) v := by unfold F_cleaning; rw [if_pos hP]
    refine mj_aload_n hJ dX9_cleaning_15 rfl ?_
    refine mk_Vv0 hJ dX9_cleaning_16 cw_X9_160 rfl rfl rfl rfl (Nat.le_of_ble_eq_true rfl) (by decide) (c_X9_findCleaning hw) (fun I1 b1 hq9 => ?_)
    obtain ⟨rfl, hf, hT⟩ := hq9
    have hS : Same I I1 := Same.of (fun c hc => hf c (by omega) (by omega))
    have e112 := hf 112 (by decide) (by decide)
    refine mj_iload_n hJ dX9_cleaning_19 rfl ?_
    refine mj_if_ge (tgt := 43) hJ dX9_cleaning_20 (by decide) (fun h => ?_) (fun h => ?_)
    · have hv : 0 ≤ v ∧ v < I 112 0 := by omega
      rw [if_neg (by omega)] at eF
      have loop : ∀ (m : Nat) (k : Nat), (k + m : Int) = v → J 47 [vr 111, vi v, vi (cab (I 112) k), vi k] [] (mk I1 b1) := by
        intro m
        induction m with
        | zero =>
          intro k hk
          have ek : v = (k : Int) := by omega
          subst ek
          have ca := cab_bd hw k (by omega)
          have sk := sd_bd hw k (by omega)
          have cz := cl_at hw (k := k) (p := cab (I 112) k) (by omega) ca.1 ca.2
          have r := (hT k (by omega) (by omega) (cab (I 112) k) ca.1 cz.2.2.2).2
          refine mj_iload_n hJ dX9_cleaning_47 rfl ?_
          refine mj_iload_n hJ dX9_cleaning_48 rfl ?_
          refine mj_icmp_ge (tgt := 80) hJ dX9_cleaning_49 (by decide) (fun _ => ?_) (fun hno => absurd (by omega) hno)
          refine mj_aload_n hJ dX9_cleaning_80 rfl ?_
          refine mk_getR hJ dX9_cleaning_81 fw_X9_40 rfl (by decide) rfl rfl ?_
          refine mj_sipush hJ dX9_cleaning_84 (by decide) ?_
          refine mj_iload_n hJ dX9_cleaning_87 rfl ?_
          first | refine ms_imul hJ dX9_cleaning_88 (by omega) ?_ | refine mj_imul hJ dX9_cleaning_88 ?_
          refine mj_iload_n hJ dX9_cleaning_89 rfl ?_
          first | refine ms_iadd hJ dX9_cleaning_90 (by omega) ?_ | refine mj_iadd hJ dX9_cleaning_90 ?_
          refine mk_iald hJ dX9_cleaning_91 rfl (by omega) (by omega) ?_
          refine hR _ _ _ _ _ dX9_cleaning_92 nar_i ⟨?_, rfl, hS⟩
          rw [r, cz.1, eF]
          unfold ccl
          rw [Int.toNat_natCast]
        | succ m ih =>
          intro k hk
          have ca := cab_bd hw k (by omega)
          have sk := sd_bd hw k (by omega)
          have cz := cl_at hw (k := k) (p := cab (I 112) k) (by omega) ca.1 ca.2
          have r := (hT k (by omega) (by omega) (cab (I 112) k) ca.1 cz.2.2.2).2
          rw [cz.1] at r
          have e : cab (I 112) (k + 1) = cab (I 112) k + dq (I 112) k - (cl (I 112) (lmq (I 112)) (I 112 0 - 1 - k).toNat k (cab (I 112) k)).2 := rfl
          have fa := (hw.fact (v := k) (by omega) (by omega)).2.2.2.1
          rw [show I 112 (10 + 18 * (k : Int) + 3) = dq (I 112) k from rfl] at fa
          refine mj_iload_n hJ dX9_cleaning_47 rfl ?_
          refine mj_iload_n hJ dX9_cleaning_48 rfl ?_
          refine mj_icmp_ge (tgt := 80) hJ dX9_cleaning_49 (by decide) (fun hyes => absurd hyes (by omega)) (fun _ => ?_)
          refine mj_iload_n hJ dX9_cleaning_52 rfl ?_
          refine mj_aload_n hJ dX9_cleaning_53 rfl ?_
          refine mj_iload_n hJ dX9_cleaning_54 rfl ?_
          refine mj_iconst hJ dX9_cleaning_55 (by decide) ?_
          refine mk_Vp2 hJ dX9_cleaning_56 cw_X9_116 rfl rfl rfl rfl (Nat.le_of_ble_eq_true rfl) (by decide) (c_X9_of k 3 (by omega) (by omega) (by omega) (by omega)) ?_
          rw [e112, show I 112 (10 + 18 * (k : Int) + 3) = dq (I 112) k from rfl]
          refine mj_aload_n hJ dX9_cleaning_59 rfl ?_
          refine mk_getR hJ dX9_cleaning_60 fw_X9_40 rfl (by decide) rfl rfl ?_
          refine mj_sipush hJ dX9_cleaning_63 (by decide) ?_
          refine mj_iload_n hJ dX9_cleaning_66 rfl ?_
          first | refine ms_imul hJ dX9_cleaning_67 (by omega) ?_ | refine mj_imul hJ dX9_cleaning_67 ?_
          refine mj_iload_n hJ dX9_cleaning_68 rfl ?_
          first | refine ms_iadd hJ dX9_cleaning_69 (by omega) ?_ | refine mj_iadd hJ dX9_cleaning_69 ?_
          refine mk_iald hJ dX9_cleaning_70 rfl (by omega) (by omega) ?_
          rw [r]
          first | refine ms_isub hJ dX9_cleaning_71 (by omega) ?_ | refine mj_isub hJ dX9_cleaning_71 ?_
          first | refine ms_iadd hJ dX9_cleaning_72 (by omega) ?_ | refine mj_iadd hJ dX9_cleaning_72 ?_
          refine ms_istore_n (ls' := [_, _, _, _]) hJ dX9_cleaning_73 (by decide) rfl rfl ?_
          refine ms_iinc (ls' := [_, _, _, _]) hJ dX9_cleaning_74 rfl (by decide) rfl (wr_id (by omega)) rfl ?_
          refine mj_goto (tgt := 47) hJ dX9_cleaning_77 (by decide) ?_
          rw [show cab (I 112) k + (dq (I 112) k - (cl (I 112) (lmq (I 112)) (I 112 0 - 1 - k).toNat k (cab (I 112) k)).2) = cab (I 112) (k + 1) by omega]
          exact ih (k + 1) (by omega)
      refine mj_iconst hJ dX9_cleaning_43 (by decide) ?_
      refine ms_istore_n (ls' := [_, _, _, _]) hJ dX9_cleaning_44 (by decide) rfl rfl ?_
      refine mj_iconst hJ dX9_cleaning_45 (by decide) ?_
      refine ms_istore_n (ls' := [_, _, _, _]) hJ dX9_cleaning_46 (by decide) rfl rfl ?_
      exact loop v.toNat 0 (by omega)
    · rw [if_pos (by omega)] at eF
      refine mj_aload_n hJ dX9_cleaning_23 rfl ?_
      refine mk_getR hJ dX9_cleaning_24 fw_X9_9 rfl (by decide) rfl rfl ?_
      refine mj_iconst hJ dX9_cleaning_27 (by decide) ?_
      refine mk_iald hJ dX9_cleaning_28 rfl (by omega) (by omega) ?_
      rw [e112]
      refine mj_if_ne (tgt := 36) hJ dX9_cleaning_29 (by decide) (fun h0 => ?_) (fun h0 => ?_)
      · refine mj_aload_n hJ dX9_cleaning_36 rfl ?_
        refine mk_getR hJ dX9_cleaning_37 fw_X9_37 rfl (by decide) rfl rfl ?_
        refine mj_iconst hJ dX9_cleaning_40 (by decide) ?_
        refine mk_iald hJ dX9_cleaning_41 rfl (by omega) (by omega) ?_
        have cz := cl_at hw (k := 0) (p := 0) (by omega) (by omega) (Int.le_refl _)
        have r := (hT 0 (by omega) (by omega) 0 (by omega) cz.2.2.2).1
        refine hR _ _ _ _ _ dX9_cleaning_42 nar_i ⟨?_, rfl, hS⟩
        rw [show (130 * 0 + 0 : Int) = 0 by omega] at r
        have := cz.1
        rw [show ((0 : Nat) : Int) = 0 by omega] at this
        rw [eF, if_neg h0, r, this, Int.sub_zero]
      · refine mj_iconst hJ dX9_cleaning_32 (by decide) ?_
        refine mj_goto (tgt := 42) hJ dX9_cleaning_33 (by decide) ?_
        exact hR _ _ _ _ _ dX9_cleaning_42 nar_i ⟨by rw [eF, if_pos (by omega)], rfl, hS⟩
  refine mj_iload_n hJ dX9_cleaning_0 rfl ?_
  refine mj_iconst hJ dX9_cleaning_1 (by decide) ?_
  refine mj_icmp_eq (tgt := 15) hJ dX9_cleaning_2 (by decide) (fun h => ?_) (fun h => ?_)
  · exact go (Or.inl (by omega))
  · refine mj_aload_n hJ dX9_cleaning_5 rfl ?_
    refine mj_iload_n hJ dX9_cleaning_6 rfl ?_
    refine mk_Vp1 hJ dX9_cleaning_7 cw_X9_112 rfl rfl rfl rfl (Nat.le_of_ble_eq_true rfl) (by decide) (c_X9_isVillage v hn.1 hn.2) ?_
    by_cases h2 : 0 ≤ v ∧ v < I 112 0
    · rw [if_pos h2]
      refine mj_if_ne (tgt := 15) hJ dX9_cleaning_10 (by decide) (fun _ => ?_) (fun hno => absurd hno (by decide))
      exact go (Or.inr h2)
    · rw [if_neg h2]
      refine mj_if_ne (tgt := 15) hJ dX9_cleaning_10 (by decide) (fun hyes => absurd (by decide) hyes) (fun _ => ?_)
      refine mj_iconst hJ dX9_cleaning_13 (by decide) ?_
      exact hR _ _ _ _ _ dX9_cleaning_14 nar_i ⟨by unfold F_cleaning; rw [if_neg (fun q => q.elim (by omega) h2)], rfl, Same.rfl'⟩
end M9
