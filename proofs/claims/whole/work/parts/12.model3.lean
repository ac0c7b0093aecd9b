section M3
variable {G : GE} {I : Ints} {b : Bool}
/-- what the model's tables hold of the villages v to l, where a is the first one -/
def mT (f q : Int → Int) (a l : Int) (I1 : Ints) (v : Int) : Prop :=
  ∀ w : Int, v ≤ w → w ≤ l → ∀ c : Int, 0 ≤ c → c ≤ sg q a w → I1 114 (160 * w + c) = (bb f q (l - w).toNat w c).1 ∧ I1 115 (160 * w + c) = (bb f q (l - w).toNat w c).2
theorem c_X9_mostOf (a l : Int) (hw : WN (I 112)) (h0 : 0 ≤ a) (h1 : a ≤ l) (h2 : l < 6) (hq : ∀ v, a ≤ v → v ≤ l → 0 ≤ I 116 v) (hs : sg (I 116) a l ≤ 148) :
    MtI G yX9_mostOf cX9_mostOf 10 (some .int) 3 [vr 111, vi a, vi l] I b (fun z I' b' => z = (bb (I 112) (I 116) (l - a).toNat a (I 116 a)).1 ∧ b' = b ∧ (∀ c, c ≠ 114 → c ≠ 115 → I' c = I c) ∧ mT (I 112) (I 116) a l I' a) := by
  refine mt_enterI (own := RX9) (ls0 := [vr 111, vi a, vi l, vu, vu, vu, vu, vu, vu, vu]) rfl (by decide +kernel) (Nat.le_of_ble_eq_true rfl) rfl rfl (fun J hJ hR => ?_)
  have hsg : ∀ v, a - 1 ≤ v → v ≤ l → 0 ≤ sg (I 116) a v ∧ sg (I 116) a v ≤ 148 := fun v x y => by
    have := sg_le hq x y
    omega
  have hq1 : ∀ v, a ≤ v → v ≤ l → 0 ≤ I 116 v ∧ I 116 v ≤ 148 := fun v x y => by
    have e := sg_succ (q := I 116) (a := a) (v := v - 1) (by omega)
    rw [show v - 1 + 1 = v by omega] at e
    have := hsg v (by omega) y
    have := hsg (v - 1) (by omega) (by omega)
    have := hq v x y
    omega
  -- loop 5: the uses of c at v
  have L5 : ∀ (v c below : Int), a ≤ v → v ≤ l → 0 ≤ c → c ≤ sg (I 116) a v → (v < l → below = I 116 (v + 1)) →
      ∀ (m : Nat) (u : Nat) (best : Int) (I1 : Ints), (u + m : Int) = cap c + 1 → (∀ x, x ≠ 114 → x ≠ 115 → I1 x = I x) → mT (I 112) (I 116) a l I1 (v + 1) → I1 114 (160 * (l + 1)) = 0 →
      (0 < u → best = (scan (hv (I 112) (I 116) l v c) (u - 1)).1 ∧ I1 115 (160 * v + c) = (scan (hv (I 112) (I 116) l v c) (u - 1)).2) →
      (∀ I2 : Ints, (∀ x, x ≠ 115 → I2 x = I1 x) → (∀ j, j ≠ 160 * v + c → I2 115 j = I1 115 j) → I2 115 (160 * v + c) = (bb (I 112) (I 116) (l - v).toNat v c).2 → J 225 [vr 111, vi a, vi l, vi (sg (I 116) a v), vi v, vi below, vi c, vi (bb (I 112) (I 116) (l - v).toNat v c).1, vu, vu] [] (mk I2 b)) →
      J 118 [vr 111, vi a, vi l, vi (sg (I 116) a v), vi v, vi below, vi c, vi best, vi u, vu] [] (mk I1 b) := by
    intro v c below hv0 hv1 hc0 hc1 hbel m
    have hcap := cap_le hc0
    have hsv := hsg v (by omega) hv1
    induction m with
    | zero =>
      intro u best I1 hu hf hT hz hB kk
      have hB := hB (by omega)
      have eu : u - 1 = cap c := by omega
      rw [eu] at hB
      have eb := bb_hv (f := I 112) (q := I 116) (l := l) (v := v) (c := c) hv1
      have hgo : J 225 [vr 111, vi a, vi l, vi (sg (I 116) a v), vi v, vi below, vi c, vi best, vi u, vu] [] (mk I1 b) := by
        refine mj_drop (ls' := [_, _, _, _, _, _, _, _, vu, vu]) hJ ⟨Or.inl rfl, Or.inl rfl, Or.inl rfl, Or.inl rfl, Or.inl rfl, Or.inl rfl, Or.inl rfl, Or.inl rfl, Or.inr rfl, Or.inr rfl, trivial⟩ ?_
        rw [hB.1, ← eb]
        exact kk I1 (fun _ _ => rfl) (fun _ _ => rfl) (by rw [hB.2, ← eb])
      have hcc : (cap c : Int) = 12 ∨ ((cap c : Int) < 12 ∧ (cap c : Int) = c) := by unfold cap at hcap ⊢; split <;> omega
      refine mj_iload hJ dX9_mostOf_118 rfl ?_
      refine mj_bipush hJ dX9_mostOf_120 (by decide) ?_
      refine mj_icmp_gt (tgt := 225) hJ dX9_mostOf_122 (by decide) (fun hx => ?_) (fun hx => ?_)
      · exact hgo
      · refine mj_iload hJ dX9_mostOf_125 rfl ?_
        refine mj_iload hJ dX9_mostOf_127 rfl ?_
        refine mj_icmp_gt (tgt := 225) hJ dX9_mostOf_129 (by decide) (fun _ => ?_) (fun hno => absurd (by omega) hno)
        exact hgo
    | succ m ih =>
      intro u best I1 hu hf hT hz hB kk
      have e112 := hf 112 (by decide) (by decide)
      have hfb := fst_bd hw (v := v) (by omega) (by omega) u (by omega)
      have hhb := hrm_bd hw (v := v) (by omega) (by omega) (p := c - u) (by omega) (by omega)
      have ehv : hv (I 112) (I 116) l v c u = fst (I 112) v u - hrm (I 112) v (c - u) + (if v < l then (bb (I 112) (I 116) (l - (v + 1)).toNat (v + 1) (c - u + I 116 (v + 1))).1 else 0) := by
        unfold hv mde
        rw [Int.toNat_natCast]
      refine mj_iload hJ dX9_mostOf_118 rfl ?_
      refine mj_bipush hJ dX9_mostOf_120 (by decide) ?_
      refine mj_icmp_gt (tgt := 225) hJ dX9_mostOf_122 (by decide) (fun hyes => absurd hyes (by omega)) (fun _ => ?_)
      refine mj_iload hJ dX9_mostOf_125 rfl ?_
      refine mj_iload hJ dX9_mostOf_127 rfl ?_
      refine mj_icmp_gt (tgt := 225) hJ dX9_mostOf_129 (by decide) (fun hyes => absurd hyes (by omega)) (fun _ => ?_)
      refine mj_aload_n hJ dX9_mostOf_132 rfl ?_
      refine mj_iload hJ dX9_mostOf_133 rfl ?_
      refine mj_iload hJ dX9_mostOf_135 rfl ?_
      refine mk_Vp2 hJ dX9_mostOf_137 cw_X9_123 rfl rfl rfl rfl (Nat.le_of_ble_eq_true rfl) (by decide) (c_X9_first v u (by omega) (by omega) (by omega) (by rw [e112]; exact hw)) ?_
      rw [e112]
      refine mj_aload_n hJ dX9_mostOf_140 rfl ?_
      refine mj_iload hJ dX9_mostOf_141 rfl ?_
      refine mj_iload hJ dX9_mostOf_143 rfl ?_
      refine mj_iload hJ dX9_mostOf_145 rfl ?_
      first | refine ms_isub hJ dX9_mostOf_147 (by omega) ?_ | refine mj_isub hJ dX9_mostOf_147 ?_
      refine mk_Vp2 hJ dX9_mostOf_148 cw_X9_126 rfl rfl rfl rfl (Nat.le_of_ble_eq_true rfl) (by decide) (c_X9_harm v (c - u) (by omega) (by omega) (by omega) (by omega) (by rw [e112]; exact hw)) ?_
      rw [e112]
      first | refine ms_isub hJ dX9_mostOf_151 (by omega) ?_ | refine mj_isub hJ dX9_mostOf_151 ?_
      refine mj_aload_n hJ dX9_mostOf_152 rfl ?_
      refine mk_getR hJ dX9_mostOf_153 fw_X9_16 rfl (by decide) rfl rfl ?_
      refine mj_sipush hJ dX9_mostOf_156 (by decide) ?_
      refine mj_iload hJ dX9_mostOf_159 rfl ?_
      refine mj_iconst hJ dX9_mostOf_161 (by decide) ?_
      first | refine ms_iadd hJ dX9_mostOf_162 (by omega) ?_ | refine mj_iadd hJ dX9_mostOf_162 ?_
      first | refine ms_imul hJ dX9_mostOf_163 (by omega) ?_ | refine mj_imul hJ dX9_mostOf_163 ?_
      refine mj_iload hJ dX9_mostOf_164 rfl ?_
      refine mj_iload_n hJ dX9_mostOf_166 rfl ?_
      -- behind the table's read
      have K : ∀ r : Int, hv (I 112) (I 116) l v c u = fst (I 112) v u - hrm (I 112) v (c - u) + r → -20000 ≤ r → r ≤ 20000 → J 184 [vr 111, vi a, vi l, vi (sg (I 116) a v), vi v, vi below, vi c, vi best, vi u, vu] [vi r, vi (fst (I 112) v u - hrm (I 112) v (c - u))] (mk I1 b) := by
        intro r er r0 r1
        first | refine ms_iadd hJ dX9_mostOf_184 (by omega) ?_ | refine mj_iadd hJ dX9_mostOf_184 ?_
        rw [← er]
        refine ms_istore (ls' := [_, _, _, _, _, _, _, _, _, _]) hJ dX9_mostOf_185 (by decide) rfl rfl ?_
        refine mj_iload hJ dX9_mostOf_187 rfl ?_
        have sc : ∀ u' : Nat, u = u' + 1 → scan (hv (I 112) (I 116) l v c) u = if (scan (hv (I 112) (I 116) l v c) u').1 < hv (I 112) (I 116) l v c u then (hv (I 112) (I 116) l v c u, (u : Int)) else scan (hv (I 112) (I 116) l v c) u' := by
          intro u' hu'
          subst hu'
          rfl
        have take : (scan (hv (I 112) (I 116) l v c) u = (hv (I 112) (I 116) l v c u, (u : Int))) → J 199 [vr 111, vi a, vi l, vi (sg (I 116) a v), vi v, vi below, vi c, vi best, vi u, vi (hv (I 112) (I 116) l v c u)] [] (mk I1 b) := by
          intro es
          refine mj_iload hJ dX9_mostOf_199 rfl ?_
          refine ms_istore (ls' := [_, _, _, _, _, _, _, _, _, _]) hJ dX9_mostOf_201 (by decide) rfl rfl ?_
          refine mj_aload_n hJ dX9_mostOf_203 rfl ?_
          refine mk_getR hJ dX9_mostOf_204 fw_X9_19 rfl (by decide) rfl rfl ?_
          refine mj_sipush hJ dX9_mostOf_207 (by decide) ?_
          refine mj_iload hJ dX9_mostOf_210 rfl ?_
          first | refine ms_imul hJ dX9_mostOf_212 (by omega) ?_ | refine mj_imul hJ dX9_mostOf_212 ?_
          refine mj_iload hJ dX9_mostOf_213 rfl ?_
          first | refine ms_iadd hJ dX9_mostOf_215 (by omega) ?_ | refine mj_iadd hJ dX9_mostOf_215 ?_
          refine mj_iload hJ dX9_mostOf_216 rfl ?_
          refine mk_iast hJ dX9_mostOf_218 rfl (by omega) (by omega) ?_
          refine ms_iinc (ls' := [_, _, _, _, _, _, _, _, _, _]) hJ dX9_mostOf_219 rfl (by decide) rfl (wr_id (by omega)) rfl ?_
          refine mj_goto (tgt := 118) hJ dX9_mostOf_222 (by decide) ?_
          refine mj_drop (ls' := [_, _, _, _, _, _, _, _, _, vu]) hJ ⟨Or.inl rfl, Or.inl rfl, Or.inl rfl, Or.inl rfl, Or.inl rfl, Or.inl rfl, Or.inl rfl, Or.inl rfl, Or.inl rfl, Or.inr rfl, trivial⟩ ?_
          refine ih (u + 1) _ _ (by omega) (fun x x1 x2 => (upI_ne x2).trans (hf x x1 x2)) (fun w w0 w1 c' c0 c1 => ?_) ?_ (fun _ => ?_) (fun I2 g1 g2 g3 => ?_)
          · rw [upI_ne (by decide), upI_at, if_neg (by have := hsg w (by omega) w1; omega)]
            exact hT w w0 w1 c' c0 c1
          · rw [upI_ne (by decide)]; exact hz
          · rw [upI_at, if_pos rfl, show u + 1 - 1 = u by omega, es]
            exact ⟨rfl, rfl⟩
          · exact kk I2 (fun x hx => (g1 x hx).trans (upI_ne hx)) (fun j hj => (g2 j hj).trans (by rw [upI_at, if_neg hj])) g3
        refine mj_if_eq (tgt := 199) hJ dX9_mostOf_189 (by decide) (fun hu0 => ?_) (fun hu0 => ?_)
        · have : u = 0 := by omega
          subst this
          exact take rfl
        · obtain ⟨u', hu'⟩ : ∃ u', u = u' + 1 := ⟨u - 1, by omega⟩
          have hB := hB (by omega)
          rw [show u - 1 = u' by omega] at hB
          have sc := sc u' hu'
          refine mj_iload hJ dX9_mostOf_192 rfl ?_
          refine mj_iload hJ dX9_mostOf_194 rfl ?_
          refine mj_icmp_le (tgt := 219) hJ dX9_mostOf_196 (by decide) (fun hle => ?_) (fun hle => ?_)
          · rw [if_neg (by omega)] at sc
            refine ms_iinc (ls' := [_, _, _, _, _, _, _, _, _, _]) hJ dX9_mostOf_219 rfl (by decide) rfl (wr_id (by omega)) rfl ?_
            refine mj_goto (tgt := 118) hJ dX9_mostOf_222 (by decide) ?_
            refine mj_drop (ls' := [_, _, _, _, _, _, _, _, _, vu]) hJ ⟨Or.inl rfl, Or.inl rfl, Or.inl rfl, Or.inl rfl, Or.inl rfl, Or.inl rfl, Or.inl rfl, Or.inl rfl, Or.inl rfl, Or.inr rfl, trivial⟩ ?_
            refine ih (u + 1) _ _ (by omega) hf hT hz (fun _ => ?_) kk
            rw [show u + 1 - 1 = u by omega, sc]
            exact hB
          · rw [if_pos (by omega)] at sc
            exact take sc
      refine mj_icmp_ge (tgt := 181) hJ dX9_mostOf_167 (by decide) (fun hvl => ?_) (fun hvl => ?_)
      · have hvl : v = l := by omega
        refine mj_iconst hJ dX9_mostOf_181 (by decide) ?_
        first | refine ms_iadd hJ dX9_mostOf_182 (by omega) ?_ | refine mj_iadd hJ dX9_mostOf_182 ?_
        refine mk_iald hJ dX9_mostOf_183 rfl (by omega) (by omega) ?_
        rw [show 160 * (v + 1) + 0 = 160 * (l + 1) by omega, hz]
        exact K 0 (by rw [ehv, if_neg (by omega)]) (by omega) (by omega)
      · have hvl : v < l := by omega
        have hbel := hbel hvl
        have hqv := hq1 (v + 1) (by omega) (by omega)
        have hsv1 := hsg (v + 1) (by omega) (by omega)
        have esg := sg_succ (q := I 116) (a := a) (v := v) (by omega)
        subst hbel
        refine mj_iload hJ dX9_mostOf_170 rfl ?_
        refine mj_iload hJ dX9_mostOf_172 rfl ?_
        first | refine ms_isub hJ dX9_mostOf_174 (by omega) ?_ | refine mj_isub hJ dX9_mostOf_174 ?_
        refine mj_iload hJ dX9_mostOf_175 rfl ?_
        first | refine ms_iadd hJ dX9_mostOf_177 (by omega) ?_ | refine mj_iadd hJ dX9_mostOf_177 ?_
        refine mj_goto (tgt := 182) hJ dX9_mostOf_178 (by decide) ?_
        first | refine ms_iadd hJ dX9_mostOf_182 (by omega) ?_ | refine mj_iadd hJ dX9_mostOf_182 ?_
        refine mk_iald hJ dX9_mostOf_183 rfl (by omega) (by omega) ?_
        have hT1 := (hT (v + 1) (by omega) (by omega) (c - u + I 116 (v + 1)) (by omega) (by omega)).1
        rw [hT1]
        have hrest := sg_rest (q := I 116) (a := a) (w := v + 1) (l := l) (by omega) (by omega)
        have hbb := bb_bd (q := I 116) hw (l - (v + 1)).toNat (v + 1) (c - u + I 116 (v + 1)) (by omega) (by omega) (by omega) (fun i x y => hq i (by omega) (by omega)) (by omega)
        exact K _ (by rw [ehv, if_pos hvl]) (by omega) (by omega)
  -- loop 4: all that may come to v
  have L4 : ∀ (v below : Int), a ≤ v → v ≤ l → (v < l → below = I 116 (v + 1)) →
      (∀ I2 : Ints, (∀ x, x ≠ 114 → x ≠ 115 → I2 x = I x) → mT (I 112) (I 116) a l I2 v → I2 114 (160 * (l + 1)) = 0 → J 247 [vr 111, vi a, vi l, vi (sg (I 116) a v), vi v, vu, vu, vu, vu, vu] [] (mk I2 b)) →
      ∀ (m : Nat) (c : Int) (I1 : Ints), 0 ≤ c → c + m = sg (I 116) a v + 1 → (∀ x, x ≠ 114 → x ≠ 115 → I1 x = I x) → mT (I 112) (I 116) a l I1 (v + 1) → I1 114 (160 * (l + 1)) = 0 →
      (∀ c', 0 ≤ c' → c' < c → I1 114 (160 * v + c') = (bb (I 112) (I 116) (l - v).toNat v c').1 ∧ I1 115 (160 * v + c') = (bb (I 112) (I 116) (l - v).toNat v c').2) →
      J 106 [vr 111, vi a, vi l, vi (sg (I 116) a v), vi v, vi below, vi c, vu, vu, vu] [] (mk I1 b) := by
    intro v below hv0 hv1 hbel kk m
    have hsv := hsg v (by omega) hv1
    induction m with
    | zero =>
      intro c I1 hc0 hcm hf hT hz hB
      refine mj_iload hJ dX9_mostOf_106 rfl ?_
      refine mj_iload_n hJ dX9_mostOf_108 rfl ?_
      refine mj_icmp_gt (tgt := 247) hJ dX9_mostOf_109 (by decide) (fun _ => ?_) (fun hno => absurd (by omega) hno)
      refine mj_drop (ls' := [_, _, _, _, _, vu, vu, vu, vu, vu]) hJ ⟨Or.inl rfl, Or.inl rfl, Or.inl rfl, Or.inl rfl, Or.inl rfl, Or.inr rfl, Or.inr rfl, Or.inr rfl, Or.inr rfl, Or.inr rfl, trivial⟩ ?_
      refine kk I1 hf (fun w w0 w1 c' c0 c1 => ?_) hz
      by_cases hwv : w = v
      · subst hwv
        exact hB c' c0 (by omega)
      · exact hT w (by omega) w1 c' c0 c1
    | succ m ih =>
      intro c I1 hc0 hcm hf hT hz hB
      have hcap := cap_le hc0
      refine mj_iload hJ dX9_mostOf_106 rfl ?_
      refine mj_iload_n hJ dX9_mostOf_108 rfl ?_
      refine mj_icmp_gt (tgt := 247) hJ dX9_mostOf_109 (by decide) (fun hyes => absurd hyes (by omega)) (fun _ => ?_)
      refine mj_iconst hJ dX9_mostOf_112 (by decide) ?_
      refine ms_istore (ls' := [_, _, _, _, _, _, _, _, _, _]) hJ dX9_mostOf_113 (by decide) rfl rfl ?_
      refine mj_iconst hJ dX9_mostOf_115 (by decide) ?_
      refine ms_istore (ls' := [_, _, _, _, _, _, _, _, _, _]) hJ dX9_mostOf_116 (by decide) rfl rfl ?_
      refine L5 v c below hv0 hv1 hc0 (by omega) hbel (cap c + 1) 0 0 I1 (by omega) hf hT hz (fun h => absurd h (by omega)) (fun I2 g1 g2 g3 => ?_)
      refine mj_aload_n hJ dX9_mostOf_225 rfl ?_
      refine mk_getR hJ dX9_mostOf_226 fw_X9_16 rfl (by decide) rfl rfl ?_
      refine mj_sipush hJ dX9_mostOf_229 (by decide) ?_
      refine mj_iload hJ dX9_mostOf_232 rfl ?_
      first | refine ms_imul hJ dX9_mostOf_234 (by omega) ?_ | refine mj_imul hJ dX9_mostOf_234 ?_
      refine mj_iload hJ dX9_mostOf_235 rfl ?_
      first | refine ms_iadd hJ dX9_mostOf_237 (by omega) ?_ | refine mj_iadd hJ dX9_mostOf_237 ?_
      refine mj_iload hJ dX9_mostOf_238 rfl ?_
      refine mk_iast hJ dX9_mostOf_240 rfl (by omega) (by omega) ?_
      refine ms_iinc (ls' := [_, _, _, _, _, _, _, _, _, _]) hJ dX9_mostOf_241 rfl (by decide) rfl (wr_id (by omega)) rfl ?_
      refine mj_goto (tgt := 106) hJ dX9_mostOf_244 (by decide) ?_
      refine mj_drop (ls' := [_, _, _, _, _, _, _, vu, vu, vu]) hJ ⟨Or.inl rfl, Or.inl rfl, Or.inl rfl, Or.inl rfl, Or.inl rfl, Or.inl rfl, Or.inl rfl, Or.inr rfl, Or.inr rfl, Or.inr rfl, trivial⟩ ?_
      refine ih (c + 1) _ (by omega) (by omega) (fun x x1 x2 => (upI_ne x1).trans ((g1 x x2).trans (hf x x1 x2))) (fun w w0 w1 c' c0 c1 => ?_) ?_ (fun c' c0 c1 => ?_)
      · have hsw := hsg w (by omega) w1
        rw [upI_at, if_neg (by omega), upI_ne (by decide), g1 114 (by decide), g2 _ (by omega)]
        exact hT w w0 w1 c' c0 c1
      · rw [upI_at, if_neg (by omega), g1 114 (by decide)]; exact hz
      · by_cases hcc : c' = c
        · subst hcc
          rw [upI_at, if_pos rfl, upI_ne (by decide), g3]
          exact ⟨rfl, rfl⟩
        · rw [upI_at, if_neg (by omega), upI_ne (by decide), g1 114 (by decide), g2 _ (by omega)]
          exact hB c' c0 (by omega)
  -- loop 3: the villages from the last one up
  have L3 : ∀ (n : Nat) (v : Int) (I1 : Ints), v = a + n - 1 → v ≤ l → (∀ x, x ≠ 114 → x ≠ 115 → I1 x = I x) → mT (I 112) (I 116) a l I1 (v + 1) → I1 114 (160 * (l + 1)) = 0 →
      J 61 [vr 111, vi a, vi l, vi (sg (I 116) a (if v < l then v + 1 else l)), vi v, vu, vu, vu, vu, vu] [] (mk I1 b) := by
    intro n
    induction n with
    | zero =>
      intro v I1 hv hvl hf hT hz
      have hqa := hq1 a (by omega) (by omega)
      have e116 := hf 116 (by decide) (by decide)
      refine mj_iload hJ dX9_mostOf_61 rfl ?_
      refine mj_iload_n hJ dX9_mostOf_63 rfl ?_
      refine mj_icmp_lt (tgt := 253) hJ dX9_mostOf_64 (by decide) (fun _ => ?_) (fun hno => absurd (by omega) hno)
      refine mj_aload_n hJ dX9_mostOf_253 rfl ?_
      refine mk_getR hJ dX9_mostOf_254 fw_X9_16 rfl (by decide) rfl rfl ?_
      refine mj_sipush hJ dX9_mostOf_257 (by decide) ?_
      refine mj_iload_n hJ dX9_mostOf_260 rfl ?_
      first | refine ms_imul hJ dX9_mostOf_261 (by omega) ?_ | refine mj_imul hJ dX9_mostOf_261 ?_
      refine mj_aload_n hJ dX9_mostOf_262 rfl ?_
      refine mk_getR hJ dX9_mostOf_263 fw_X9_22 rfl (by decide) rfl rfl ?_
      refine mj_iload_n hJ dX9_mostOf_266 rfl ?_
      refine mk_iald hJ dX9_mostOf_267 rfl (by omega) (by omega) ?_
      rw [e116]
      first | refine ms_iadd hJ dX9_mostOf_268 (by omega) ?_ | refine mj_iadd hJ dX9_mostOf_268 ?_
      refine mk_iald hJ dX9_mostOf_269 rfl (by omega) (by omega) ?_
      have hT0 := (hT a (by omega) h1 (I 116 a) (by omega) (by rw [sg_at]; omega)).1
      exact hR _ _ _ _ _ dX9_mostOf_270 nar_i ⟨hT0, rfl, hf, fun w w0 w1 => hT w (by omega) w1⟩
    | succ n ih =>
      intro v I1 hv hvl hf hT hz
      have e116 := hf 116 (by decide) (by decide)
      have hsv := hsg v (by omega) hvl
      have K101 : ∀ below x : Int, (v < l → below = I 116 (v + 1)) → sg (I 116) a (if v < l then v + 1 else l) - x = sg (I 116) a v → J 101 [vr 111, vi a, vi l, vi (sg (I 116) a (if v < l then v + 1 else l)), vi v, vi below, vu, vu, vu, vu] [vi x, vi (sg (I 116) a (if v < l then v + 1 else l))] (mk I1 b) := by
        intro below x hbel hx
        refine ms_isub hJ dX9_mostOf_101 (by omega) ?_
        rw [hx]
        refine ms_istore_n (ls' := [_, _, _, _, _, _, _, _, _, _]) hJ dX9_mostOf_102 (by decide) rfl rfl ?_
        refine mj_iconst hJ dX9_mostOf_103 (by decide) ?_
        refine ms_istore (ls' := [_, _, _, _, _, _, _, _, _, _]) hJ dX9_mostOf_104 (by decide) rfl rfl ?_
        refine L4 v below (by omega) hvl hbel (fun I2 g1 g2 g3 => ?_) (sg (I 116) a v + 1).toNat 0 I1 (by omega) (by omega) hf hT hz (fun c' c0 c1 => absurd c1 (by omega))
        refine ms_iinc (ls' := [_, _, _, _, _, _, _, _, _, _]) hJ dX9_mostOf_247 rfl (by decide) rfl (wr_id (by omega)) rfl ?_
        refine mj_goto (tgt := 61) hJ dX9_mostOf_250 (by decide) ?_
        have e : sg (I 116) a v = sg (I 116) a (if v + -1 < l then v + -1 + 1 else l) := by
          rw [if_pos (by omega), show v + -1 + 1 = v by omega]
        rw [e]
        exact ih (v + -1) I2 (by omega) (by omega) g1 (by rw [show v + -1 + 1 = v by omega]; exact g2) g3
      have K86 : ∀ below : Int, (v < l → below = I 116 (v + 1)) → J 86 [vr 111, vi a, vi l, vi (sg (I 116) a (if v < l then v + 1 else l)), vi v, vu, vu, vu, vu, vu] [vi below] (mk I1 b) := by
        intro below hbel
        refine ms_istore (ls' := [_, _, _, _, _, _, _, _, _, _]) hJ dX9_mostOf_86 (by decide) rfl rfl ?_
        refine mj_iload_n hJ dX9_mostOf_88 rfl ?_
        refine mj_iload hJ dX9_mostOf_89 rfl ?_
        refine mj_iload_n hJ dX9_mostOf_91 rfl ?_
        refine mj_icmp_ge (tgt := 100) hJ dX9_mostOf_92 (by decide) (fun hx => ?_) (fun hx => ?_)
        · refine mj_iconst hJ dX9_mostOf_100 (by decide) ?_
          refine K101 below 0 hbel ?_
          rw [if_neg (by omega), show v = l by omega]
          omega
        · refine mj_iload hJ dX9_mostOf_95 rfl ?_
          refine mj_goto (tgt := 101) hJ dX9_mostOf_97 (by decide) ?_
          refine K101 below below hbel ?_
          have := sg_succ (q := I 116) (a := a) (v := v) (by omega)
          have := hbel (by omega)
          rw [if_pos (by omega)]
          omega
      refine mj_iload hJ dX9_mostOf_61 rfl ?_
      refine mj_iload_n hJ dX9_mostOf_63 rfl ?_
      refine mj_icmp_lt (tgt := 253) hJ dX9_mostOf_64 (by decide) (fun hyes => absurd hyes (by omega)) (fun _ => ?_)
      refine mj_iload hJ dX9_mostOf_67 rfl ?_
      refine mj_iload_n hJ dX9_mostOf_69 rfl ?_
      refine mj_icmp_ge (tgt := 85) hJ dX9_mostOf_70 (by decide) (fun hx => ?_) (fun hx => ?_)
      · refine mj_iconst hJ dX9_mostOf_85 (by decide) ?_
        exact K86 0 (fun h => absurd h (by omega))
      · refine mj_aload_n hJ dX9_mostOf_73 rfl ?_
        refine mk_getR hJ dX9_mostOf_74 fw_X9_22 rfl (by decide) rfl rfl ?_
        refine mj_iload hJ dX9_mostOf_77 rfl ?_
        refine mj_iconst hJ dX9_mostOf_79 (by decide) ?_
        first | refine ms_iadd hJ dX9_mostOf_80 (by omega) ?_ | refine mj_iadd hJ dX9_mostOf_80 ?_
        refine mk_iald hJ dX9_mostOf_81 rfl (by omega) (by omega) ?_
        refine mj_goto (tgt := 86) hJ dX9_mostOf_82 (by decide) ?_
        rw [e116]
        exact K86 _ (fun _ => rfl)
  -- loop 2: the row below the last village
  have hsl := hsg l (by omega) (Int.le_refl _)
  have L2 : ∀ (m : Nat) (c : Int) (I1 : Ints), 0 ≤ c → c + m = sg (I 116) a l + 1 → (∀ x, x ≠ 114 → I1 x = I x) → (0 < c → I1 114 (160 * (l + 1)) = 0) → J 30 [vr 111, vi a, vi l, vi (sg (I 116) a l), vi c, vu, vu, vu, vu, vu] [] (mk I1 b) := by
    intro m
    induction m with
    | zero =>
      intro c I1 hc0 hcm hf hz
      refine mj_iload hJ dX9_mostOf_30 rfl ?_
      refine mj_iload_n hJ dX9_mostOf_32 rfl ?_
      refine mj_icmp_gt (tgt := 58) hJ dX9_mostOf_33 (by decide) (fun _ => ?_) (fun hno => absurd (by omega) hno)
      refine mj_iload_n hJ dX9_mostOf_58 rfl ?_
      refine ms_istore (ls' := [_, _, _, _, _, _, _, _, _, _]) hJ dX9_mostOf_59 (by decide) rfl rfl ?_
      have e : sg (I 116) a l = sg (I 116) a (if l < l then l + 1 else l) := by rw [if_neg (by omega)]
      rw [e]
      exact L3 (l - a + 1).toNat l I1 (by omega) (Int.le_refl _) (fun x x1 _ => hf x x1) (fun w w0 w1 => absurd w0 (by omega)) (hz (by omega))
    | succ m ih =>
      intro c I1 hc0 hcm hf hz
      refine mj_iload hJ dX9_mostOf_30 rfl ?_
      refine mj_iload_n hJ dX9_mostOf_32 rfl ?_
      refine mj_icmp_gt (tgt := 58) hJ dX9_mostOf_33 (by decide) (fun hyes => absurd hyes (by omega)) (fun _ => ?_)
      refine mj_aload_n hJ dX9_mostOf_36 rfl ?_
      refine mk_getR hJ dX9_mostOf_37 fw_X9_16 rfl (by decide) rfl rfl ?_
      refine mj_sipush hJ dX9_mostOf_40 (by decide) ?_
      refine mj_iload_n hJ dX9_mostOf_43 rfl ?_
      refine mj_iconst hJ dX9_mostOf_44 (by decide) ?_
      first | refine ms_iadd hJ dX9_mostOf_45 (by omega) ?_ | refine mj_iadd hJ dX9_mostOf_45 ?_
      first | refine ms_imul hJ dX9_mostOf_46 (by omega) ?_ | refine mj_imul hJ dX9_mostOf_46 ?_
      refine mj_iload hJ dX9_mostOf_47 rfl ?_
      first | refine ms_iadd hJ dX9_mostOf_49 (by omega) ?_ | refine mj_iadd hJ dX9_mostOf_49 ?_
      refine mj_iconst hJ dX9_mostOf_50 (by decide) ?_
      refine mk_iast hJ dX9_mostOf_51 rfl (by omega) (by omega) ?_
      refine ms_iinc (ls' := [_, _, _, _, _, _, _, _, _, _]) hJ dX9_mostOf_52 rfl (by decide) rfl (wr_id (by omega)) rfl ?_
      refine mj_goto (tgt := 30) hJ dX9_mostOf_55 (by decide) ?_
      refine ih (c + 1) _ (by omega) (by omega) (fun x hx => (upI_ne hx).trans (hf x hx)) (fun _ => ?_)
      rw [upI_at]
      by_cases h : c = 0
      · rw [if_pos (by omega)]
      · rw [if_neg (by omega)]; exact hz (by omega)
  have L1 : ∀ (m : Nat) (k : Int), a ≤ k → k + m = l + 1 → J 5 [vr 111, vi a, vi l, vi (sg (I 116) a (k - 1)), vi k, vu, vu, vu, vu, vu] [] (mk I b) := by
    intro m
    induction m with
    | zero =>
      intro k hk hkm
      refine mj_iload hJ dX9_mostOf_5 rfl ?_
      refine mj_iload_n hJ dX9_mostOf_7 rfl ?_
      refine mj_icmp_gt (tgt := 27) hJ dX9_mostOf_8 (by decide) (fun _ => ?_) (fun hno => absurd (by omega) hno)
      refine mj_iconst hJ dX9_mostOf_27 (by decide) ?_
      refine ms_istore (ls' := [_, _, _, _, _, _, _, _, _, _]) hJ dX9_mostOf_28 (by decide) rfl rfl ?_
      rw [show k - 1 = l by omega]
      exact L2 (sg (I 116) a l + 1).toNat 0 I (by omega) (by omega) (fun _ _ => rfl) (fun h => absurd h (by omega))
    | succ m ih =>
      intro k hk hkm
      have hqk := hq1 k hk (by omega)
      have hsk := hsg (k - 1) (by omega) (by omega)
      have e := sg_succ (q := I 116) (a := a) (v := k - 1) (by omega)
      rw [show k - 1 + 1 = k by omega] at e
      refine mj_iload hJ dX9_mostOf_5 rfl ?_
      refine mj_iload_n hJ dX9_mostOf_7 rfl ?_
      refine mj_icmp_gt (tgt := 27) hJ dX9_mostOf_8 (by decide) (fun hyes => absurd hyes (by omega)) (fun _ => ?_)
      refine mj_iload_n hJ dX9_mostOf_11 rfl ?_
      refine mj_aload_n hJ dX9_mostOf_12 rfl ?_
      refine mk_getR hJ dX9_mostOf_13 fw_X9_22 rfl (by decide) rfl rfl ?_
      refine mj_iload hJ dX9_mostOf_16 rfl ?_
      refine mk_iald hJ dX9_mostOf_18 rfl (by omega) (by omega) ?_
      first | refine ms_iadd hJ dX9_mostOf_19 (by omega) ?_ | refine mj_iadd hJ dX9_mostOf_19 ?_
      refine ms_istore_n (ls' := [_, _, _, _, _, _, _, _, _, _]) hJ dX9_mostOf_20 (by decide) rfl rfl ?_
      refine ms_iinc (ls' := [_, _, _, _, _, _, _, _, _, _]) hJ dX9_mostOf_21 rfl (by decide) rfl (wr_id (by omega)) rfl ?_
      refine mj_goto (tgt := 5) hJ dX9_mostOf_24 (by decide) ?_
      rw [← e]
      have := ih (k + 1) (by omega) (by omega)
      rw [show k + 1 - 1 = k by omega] at this
      exact this
  refine mj_iconst hJ dX9_mostOf_0 (by decide) ?_
  refine ms_istore_n (ls' := [_, _, _, _, _, _, _, _, _, _]) hJ dX9_mostOf_1 (by decide) rfl rfl ?_
  refine mj_iload_n hJ dX9_mostOf_2 rfl ?_
  refine ms_istore (ls' := [_, _, _, _, _, _, _, _, _, _]) hJ dX9_mostOf_3 (by decide) rfl rfl ?_
  have := L1 (l + 1 - a).toNat a (Int.le_refl _) (by omega)
  rw [sg_pre] at this
  exact this
end M3
