section M17
variable {G : GE} {I : Ints} {b : Bool}
theorem c_X9_letsOf (w v c : Int) (T : List Ln) (hw : WN (I 112)) (hT : TM (I 112) T) (w0 : 0 ≤ w) (w1 : w ≤ 20) (v0 : 0 ≤ v) (v1 : v < 6) (c0 : 0 ≤ c) (c1 : c ≤ 200) :
    MtI G yX9_letsOf cX9_letsOf 7 (some .int) 3 [vr 111, vi w, vi v, vi c] I b (fun z I' b' => z = told w c (I 112 (10 + 18 * v + 0)) v T 0 ∧ b' = b ∧ ∀ c, c ≠ 130 → I' c = I c) := by
  refine mt_enterI (own := RX9) (ls0 := [vr 111, vi w, vi v, vi c, vu, vu, vu]) rfl (by decide +kernel) (Nat.le_of_ble_eq_true rfl) rfl rfl (fun J hJ hR => ?_)
  have hl := hT.1
  have hl8 := hT.2.1
  have LOOP : ∀ (L : List Ln) (l p a : Int) (I1 : Ints), 0 ≤ l → 0 ≤ p → l + L.length = T.length → tml (I 112) l p L → (∀ c, c ≠ 130 → I1 c = I c) → told w c (I 112 (10 + 18 * v + 0)) v L a = told w c (I 112 (10 + 18 * v + 0)) v T 0 → J 6 [vr 111, vi w, vi v, vi c, vi a, vi l, vu] [] (mk I1 b) := by
    intro L
    induction L with
    | nil =>
      intro l p a I1 l0 p0 hll ht hf he
      have hll : l = T.length := by rw [← hll]; simp
      refine mj_iload hJ dX9_letsOf_6 rfl ?_
      refine mj_aload_n hJ dX9_letsOf_8 rfl ?_
      refine mk_getR hJ dX9_letsOf_9 fw_X9_9 rfl (by decide) rfl rfl ?_
      refine mj_iconst hJ dX9_letsOf_12 (by decide) ?_
      refine mk_iald hJ dX9_letsOf_13 rfl (by omega) (by omega) ?_
      rw [hf 112 (by decide)]
      refine mj_icmp_ge (tgt := 84) hJ dX9_letsOf_14 (by decide) (fun _ => ?_) (fun hno => absurd (by omega) hno)
      refine mj_iload hJ dX9_letsOf_84 rfl ?_
      exact hR _ _ _ _ _ dX9_letsOf_86 nar_i ⟨he, rfl, hf⟩
    | cons t L ih =>
      obtain ⟨lv, m, S⟩ := t
      intro l p a I1 l0 p0 hll ht hf he
      have hll2 : l + 1 + (L.length : Int) = T.length := by rw [← hll, List.length_cons]; omega
      have e112 := hf 112 (by decide)
      have ht1 := ht.1
      have ht2 := ht.2.1
      have hle := tml_le L (l + 1) _ ht.2.2
      have he2 : told w c (I 112 (10 + 18 * v + 0)) v L (if lv = v ∧ evo w c (I 112 (10 + 18 * v + 0)) S = true then m else a) = told w c (I 112 (10 + 18 * v + 0)) v T 0 := he
      have K76 : ∀ (I2 : Ints) (x y : Int), (∀ c, c ≠ 130 → I2 c = I c) → x = (if lv = v ∧ evo w c (I 112 (10 + 18 * v + 0)) S = true then m else a) → J 76 [vr 111, vi w, vi v, vi c, vi a, vi l, vi y] [vi x] (mk I2 b) := by
        intro I2 x y hf2 hx
        refine ms_istore (ls' := [_, _, _, _, _, _, _]) hJ dX9_letsOf_76 (by decide) rfl rfl ?_
        refine ms_iinc (ls' := [_, _, _, _, _, _, _]) hJ dX9_letsOf_78 rfl (by decide) rfl (wr_id (by omega)) rfl ?_
        refine mj_goto (tgt := 6) hJ dX9_letsOf_81 (by decide) ?_
        refine mj_drop (ls' := [_, _, _, _, _, _, vu]) hJ ⟨Or.inl rfl, Or.inl rfl, Or.inl rfl, Or.inl rfl, Or.inl rfl, Or.inl rfl, Or.inr rfl, trivial⟩ ?_
        rw [hx]
        exact ih (l + 1) _ _ I2 (by omega) (by omega) hll2 ht.2.2 hf2 he2
      have K49 : ∀ (I2 : Ints), (∀ c, c ≠ 130 → I2 c = I c) → ¬(lv = v ∧ evo w c (I 112 (10 + 18 * v + 0)) S = true) → J 49 [vr 111, vi w, vi v, vi c, vi a, vi l, vu] [] (mk I2 b) := by
        intro I2 hf2 hno
        refine mj_iconst hJ dX9_letsOf_49 (by decide) ?_
        refine ms_istore (ls' := [_, _, _, _, _, _, _]) hJ dX9_letsOf_50 (by decide) rfl rfl ?_
        refine mj_iload hJ dX9_letsOf_52 rfl ?_
        refine mj_if_eq (tgt := 74) hJ dX9_letsOf_54 (by decide) (fun _ => ?_) (fun hno => absurd rfl hno)
        refine mj_iload hJ dX9_letsOf_74 rfl ?_
        exact K76 I2 a 0 hf2 (by rw [if_neg hno])
      refine mj_iload hJ dX9_letsOf_6 rfl ?_
      refine mj_aload_n hJ dX9_letsOf_8 rfl ?_
      refine mk_getR hJ dX9_letsOf_9 fw_X9_9 rfl (by decide) rfl rfl ?_
      refine mj_iconst hJ dX9_letsOf_12 (by decide) ?_
      refine mk_iald hJ dX9_letsOf_13 rfl (by omega) (by omega) ?_
      rw [e112]
      refine mj_icmp_ge (tgt := 84) hJ dX9_letsOf_14 (by decide) (fun hyes => absurd hyes (by omega)) (fun _ => ?_)
      refine mj_aload_n hJ dX9_letsOf_17 rfl ?_
      refine mk_getR hJ dX9_letsOf_18 fw_X9_9 rfl (by decide) rfl rfl ?_
      refine mj_bipush hJ dX9_letsOf_21 (by decide) ?_
      refine mj_iconst hJ dX9_letsOf_23 (by decide) ?_
      refine mj_iload hJ dX9_letsOf_24 rfl ?_
      first | refine ms_imul hJ dX9_letsOf_26 (by omega) ?_ | refine mj_imul hJ dX9_letsOf_26 ?_
      first | refine ms_iadd hJ dX9_letsOf_27 (by omega) ?_ | refine mj_iadd hJ dX9_letsOf_27 ?_
      refine mk_iald hJ dX9_letsOf_28 rfl (by omega) (by omega) ?_
      rw [e112, ht1.1]
      refine mj_iload_n hJ dX9_letsOf_29 rfl ?_
      refine mj_icmp_ne (tgt := 49) hJ dX9_letsOf_30 (by decide) (fun h => ?_) (fun h => ?_)
      · exact K49 I1 hf (fun q => h q.1)
      · have hH := c_X9_holds (G := G) (I := I1) (b := b) l w v c p S (by rw [e112]; exact hw) l0 (by omega) w0 w1 v0 v1 c0 c1 p0 (by rw [e112]; exact ht1.2.2.1) (by rw [e112]; exact ht1.2.2.2) (by omega) ht2.2.2.1 (by rw [e112]; exact ht2.2.2.2)
        rw [e112] at hH
        refine mj_aload_n hJ dX9_letsOf_33 rfl ?_
        refine mj_iload hJ dX9_letsOf_34 rfl ?_
        refine mj_iload_n hJ dX9_letsOf_36 rfl ?_
        refine mj_iload_n hJ dX9_letsOf_37 rfl ?_
        refine mj_iload_n hJ dX9_letsOf_38 rfl ?_
        refine mk_Vi4 hJ dX9_letsOf_39 cw_X9_264 rfl rfl rfl rfl (Nat.le_of_ble_eq_true rfl) (by first | decide | omega) (hH) (fun z I2 b2 hq9 => ?_)
        obtain ⟨rfl, rfl, hf2⟩ := hq9
        have hf3 : ∀ c, c ≠ 130 → I2 c = I c := fun c hc => (hf2 c hc).trans (hf c hc)
        by_cases h2 : evo w c (I 112 (10 + 18 * v + 0)) S = true
        · rw [if_pos h2]
          refine mj_if_eq (tgt := 49) hJ dX9_letsOf_42 (by decide) (fun hyes => absurd hyes (by decide)) (fun _ => ?_)
          refine mj_iconst hJ dX9_letsOf_45 (by decide) ?_
          refine mj_goto (tgt := 50) hJ dX9_letsOf_46 (by decide) ?_
          refine ms_istore (ls' := [_, _, _, _, _, _, _]) hJ dX9_letsOf_50 (by decide) rfl rfl ?_
          refine mj_iload hJ dX9_letsOf_52 rfl ?_
          refine mj_if_eq (tgt := 74) hJ dX9_letsOf_54 (by decide) (fun hyes => absurd hyes (by decide)) (fun _ => ?_)
          refine mj_aload_n hJ dX9_letsOf_57 rfl ?_
          refine mk_getR hJ dX9_letsOf_58 fw_X9_9 rfl (by decide) rfl rfl ?_
          refine mj_bipush hJ dX9_letsOf_61 (by decide) ?_
          refine mj_iconst hJ dX9_letsOf_63 (by decide) ?_
          refine mj_iload hJ dX9_letsOf_64 rfl ?_
          first | refine ms_imul hJ dX9_letsOf_66 (by omega) ?_ | refine mj_imul hJ dX9_letsOf_66 ?_
          first | refine ms_iadd hJ dX9_letsOf_67 (by omega) ?_ | refine mj_iadd hJ dX9_letsOf_67 ?_
          refine mj_iconst hJ dX9_letsOf_68 (by decide) ?_
          first | refine ms_iadd hJ dX9_letsOf_69 (by omega) ?_ | refine mj_iadd hJ dX9_letsOf_69 ?_
          refine mk_iald hJ dX9_letsOf_70 rfl (by omega) (by omega) ?_
          rw [hf3 112 (by decide), ht1.2.1]
          refine mj_goto (tgt := 76) hJ dX9_letsOf_71 (by decide) ?_
          exact K76 I2 m 1 hf3 (by rw [if_pos ⟨by omega, h2⟩])
        · rw [if_neg h2]
          refine mj_if_eq (tgt := 49) hJ dX9_letsOf_42 (by decide) (fun _ => ?_) (fun hno => absurd rfl hno)
          exact K49 I2 hf3 (fun q => h2 q.2)
  refine mj_iconst hJ dX9_letsOf_0 (by decide) ?_
  refine ms_istore (ls' := [_, _, _, _, _, _, _]) hJ dX9_letsOf_1 (by decide) rfl rfl ?_
  refine mj_iconst hJ dX9_letsOf_3 (by decide) ?_
  refine ms_istore (ls' := [_, _, _, _, _, _, _]) hJ dX9_letsOf_4 (by decide) rfl rfl ?_
  exact LOOP T 0 0 0 I (by omega) (by omega) (by omega) hT.2.2 (fun _ _ => rfl) rfl
theorem c_X9_goBy (w p : Int) (T : List Ln) (hw : WN (I 112)) (hT : TM (I 112) T) (w0 : 0 ≤ w) (w1 : w ≤ 20) (p0 : -1 ≤ p) (p1 : p ≤ 24) :
    MtI G yX9_goBy cX9_goBy 7 (some .int) 4 [vr 111, vi w, vi p] I b (fun z I' b' => z = gS (I 112) w (TF (I 112) T w p) (I 112 0).toNat ∧ b' = b ∧ (∀ c, (c < 114 ∨ (114 ≤ c ∧ c < 130) ∨ 135 ≤ c) → I' c = I c) ∧ ∀ v, 0 ≤ v → v < I 112 0 → I' 131 v = gC (I 112) w (TF (I 112) T w p) v ∧ I' 132 v = gL (I 112) w (TF (I 112) T w p) v ∧ I' 133 v = gT' (I 112) w (TF (I 112) T w p) v ∧ I' 134 v = gM (I 112) w (TF (I 112) T w p) v) := by
  refine mt_enterI (own := RX9) (ls0 := [vr 111, vi w, vi p, vu, vu, vu, vu]) rfl (by decide +kernel) (Nat.le_of_ble_eq_true rfl) rfl rfl (fun J hJ hR => ?_)
  have hn := hw.nv
  have hnn : ∀ v c, 0 ≤ TF (I 112) T w p v c := fun v c => TF_nn hT w p v c
  generalize hTF : TF (I 112) T w p = F at hnn
  have loop : ∀ (m k : Nat) (I1 : Ints), (k + m : Int) = I 112 0 → (∀ c, (c < 114 ∨ (114 ≤ c ∧ c < 130) ∨ 135 ≤ c) → I1 c = I c) → (∀ v : Int, 0 ≤ v → v < k → I1 131 v = gC (I 112) w F v ∧ I1 132 v = gL (I 112) w F v ∧ I1 133 v = gT' (I 112) w F v ∧ I1 134 v = gM (I 112) w F v) → J 8 [vr 111, vi w, vi p, vi (gS (I 112) w F k), vi (gab (I 112) w F k), vi k, vu] [] (mk I1 b) := by
    intro m
    induction m with
    | zero =>
      intro k I1 hk hf hB
      refine mj_iload hJ dX9_goBy_8 rfl ?_
      refine mj_aload_n hJ dX9_goBy_10 rfl ?_
      refine mk_getR hJ dX9_goBy_11 fw_X9_9 rfl (by decide) rfl rfl ?_
      refine mj_iconst hJ dX9_goBy_14 (by decide) ?_
      refine mk_iald hJ dX9_goBy_15 rfl (by omega) (by omega) ?_
      rw [hf 112 (by omega)]
      refine mj_icmp_ge (tgt := 186) hJ dX9_goBy_16 (by decide) (fun _ => ?_) (fun hno => absurd (by omega) hno)
      refine mj_iload_n hJ dX9_goBy_186 rfl ?_
      exact hR _ _ _ _ _ dX9_goBy_187 nar_i ⟨by rw [show k = (I 112 0).toNat by omega], rfl, hf, fun v a c => hB v a (by omega)⟩
    | succ m ih =>
      intro k I1 hk hf hB
      have e112 := hf 112 (by omega)
      have g := g_bd hw w0 w1 hnn (v := k) (by omega) (by omega)
      have gb := gab_bd hw w0 w1 hnn k (by omega)
      have sb := gS_bd hw w0 w1 hnn k (by omega)
      have fl := (hw.fact (v := k) (by omega) (by omega)).1
      have mb := mul_bd (a := I 112 (10 + 18 * (k : Int) + 0)) (A := 12) (b := w) (B := 20) fl.1 fl.2 w0 w1
      have ib := infl_bd hw (v := k) (by omega) (by omega) w0 w1
      have ei : (I 112 (10 + 18 * (k : Int) + 0) * w).tdiv 10 = infl (I 112) w k := rfl
      have eC : gab (I 112) w F k + infl (I 112) w k = gC (I 112) w F k := by unfold gC; rw [Int.toNat_natCast]
      have eL : gL (I 112) w F k = if F k (gC (I 112) w F k) < gC (I 112) w F k then F k (gC (I 112) w F k) else gC (I 112) w F k := rfl
      have eT : gT' (I 112) w F k = cu (I 112) k (gC (I 112) w F k - gL (I 112) w F k) := rfl
      have eP : gP (I 112) w F k = gC (I 112) w F k - gT' (I 112) w F k := rfl
      have eM : gM (I 112) w F k = fst (I 112) k (gT' (I 112) w F k).toNat - hrm (I 112) k (gP (I 112) w F k) := rfl
      have fb := fst_bd hw (v := k) (by omega) (by omega) (gT' (I 112) w F k).toNat (by omega)
      have hb := hrm_bd hw (v := k) (by omega) (by omega) (p := gP (I 112) w F k) (by omega) (by omega)
      refine mj_iload hJ dX9_goBy_8 rfl ?_
      refine mj_aload_n hJ dX9_goBy_10 rfl ?_
      refine mk_getR hJ dX9_goBy_11 fw_X9_9 rfl (by decide) rfl rfl ?_
      refine mj_iconst hJ dX9_goBy_14 (by decide) ?_
      refine mk_iald hJ dX9_goBy_15 rfl (by omega) (by omega) ?_
      rw [e112]
      refine mj_icmp_ge (tgt := 186) hJ dX9_goBy_16 (by decide) (fun hyes => absurd hyes (by omega)) (fun _ => ?_)
      refine mj_aload_n hJ dX9_goBy_19 rfl ?_
      refine mk_getR hJ dX9_goBy_20 fw_X9_68 rfl (by decide) rfl rfl ?_
      refine mj_iload hJ dX9_goBy_23 rfl ?_
      refine mj_iload hJ dX9_goBy_25 rfl ?_
      refine mj_aload_n hJ dX9_goBy_27 rfl ?_
      refine mj_iload hJ dX9_goBy_28 rfl ?_
      refine mj_iconst hJ dX9_goBy_30 (by decide) ?_
      refine mk_Vp2 hJ dX9_goBy_31 cw_X9_116 rfl rfl rfl rfl (Nat.le_of_ble_eq_true rfl) (by first | decide | omega) (c_X9_of k 0 (by omega) (by omega) (by omega) (by omega)) ?_
      rw [e112]
      refine mj_iload_n hJ dX9_goBy_34 rfl ?_
      first | refine ms_imul hJ dX9_goBy_35 (by omega) ?_ | refine mj_imul hJ dX9_goBy_35 ?_
      refine mj_bipush hJ dX9_goBy_36 (by decide) ?_
      refine ms_idiv hJ dX9_goBy_38 (by omega) (by omega) ?_
      rw [ei]
      first | refine ms_iadd hJ dX9_goBy_39 (by omega) ?_ | refine mj_iadd hJ dX9_goBy_39 ?_
      rw [eC]
      refine mk_iast hJ dX9_goBy_40 rfl (by omega) (by omega) ?_
      refine mj_iload_n hJ dX9_goBy_41 rfl ?_
      -- behind what it is told
      have K95 : ∀ I2 : Ints, (∀ c, (c < 114 ∨ (114 ≤ c ∧ c < 130) ∨ 135 ≤ c) → I2 c = I c) → (∀ c, c ≠ 130 → I2 c = upI I1 131 k (gC (I 112) w F k) c) → J 95 [vr 111, vi w, vi p, vi (gS (I 112) w F k), vi (gab (I 112) w F k), vi k, vi (F k (gC (I 112) w F k))] [vi (gL (I 112) w F k), vi k, vr 132] (mk I2 b) := by
        intro I2 hf2 hg2
        have e2 := hf2 112 (by omega)
        have hw2 : WN (I2 112) := by rw [e2]; exact hw
        refine mk_iast hJ dX9_goBy_95 rfl (by omega) (by omega) ?_
        refine mj_aload_n hJ dX9_goBy_96 rfl ?_
        refine mk_getR hJ dX9_goBy_97 fw_X9_74 rfl (by decide) rfl rfl ?_
        refine mj_iload hJ dX9_goBy_100 rfl ?_
        refine mj_aload_n hJ dX9_goBy_102 rfl ?_
        refine mj_iload hJ dX9_goBy_103 rfl ?_
        refine mj_aload_n hJ dX9_goBy_105 rfl ?_
        refine mk_getR hJ dX9_goBy_106 fw_X9_68 rfl (by decide) rfl rfl ?_
        refine mj_iload hJ dX9_goBy_109 rfl ?_
        refine mk_iald hJ dX9_goBy_111 rfl (by omega) (by omega) ?_
        rw [upI_ne (by decide), hg2 131 (by decide), upI_at, if_pos rfl]
        refine mj_aload_n hJ dX9_goBy_112 rfl ?_
        refine mk_getR hJ dX9_goBy_113 fw_X9_71 rfl (by decide) rfl rfl ?_
        refine mj_iload hJ dX9_goBy_116 rfl ?_
        refine mk_iald hJ dX9_goBy_118 rfl (by omega) (by omega) ?_
        rw [upI_at, if_pos rfl]
        first | refine ms_isub hJ dX9_goBy_119 (by omega) ?_ | refine mj_isub hJ dX9_goBy_119 ?_
        refine mk_Vp2 hJ dX9_goBy_120 cw_X9_151 rfl rfl rfl rfl (Nat.le_of_ble_eq_true rfl) (by first | decide | omega) (c_X9_canUse k _ (by omega) (by omega)) ?_
        rw [upI_ne (by decide), e2, ← eT]
        refine mk_iast hJ dX9_goBy_123 rfl (by omega) (by omega) ?_
        refine mj_aload_n hJ dX9_goBy_124 rfl ?_
        refine mk_getR hJ dX9_goBy_125 fw_X9_68 rfl (by decide) rfl rfl ?_
        refine mj_iload hJ dX9_goBy_128 rfl ?_
        refine mk_iald hJ dX9_goBy_130 rfl (by omega) (by omega) ?_
        rw [upI_ne (by decide), upI_ne (by decide), hg2 131 (by decide), upI_at, if_pos rfl]
        refine mj_aload_n hJ dX9_goBy_131 rfl ?_
        refine mk_getR hJ dX9_goBy_132 fw_X9_74 rfl (by decide) rfl rfl ?_
        refine mj_iload hJ dX9_goBy_135 rfl ?_
        refine mk_iald hJ dX9_goBy_137 rfl (by omega) (by omega) ?_
        rw [upI_at, if_pos rfl]
        first | refine ms_isub hJ dX9_goBy_138 (by omega) ?_ | refine mj_isub hJ dX9_goBy_138 ?_
        rw [← eP]
        refine ms_istore (ls' := [_, _, _, _, _, _, _]) hJ dX9_goBy_139 (by decide) rfl rfl ?_
        refine mj_aload_n hJ dX9_goBy_141 rfl ?_
        refine mk_getR hJ dX9_goBy_142 fw_X9_77 rfl (by decide) rfl rfl ?_
        refine mj_iload hJ dX9_goBy_145 rfl ?_
        refine mj_aload_n hJ dX9_goBy_147 rfl ?_
        refine mj_iload hJ dX9_goBy_148 rfl ?_
        refine mj_aload_n hJ dX9_goBy_150 rfl ?_
        refine mk_getR hJ dX9_goBy_151 fw_X9_74 rfl (by decide) rfl rfl ?_
        refine mj_iload hJ dX9_goBy_154 rfl ?_
        refine mk_iald hJ dX9_goBy_156 rfl (by omega) (by omega) ?_
        rw [upI_at, if_pos rfl]
        refine mk_Vp2 hJ dX9_goBy_157 cw_X9_123 rfl rfl rfl rfl (Nat.le_of_ble_eq_true rfl) (by first | decide | omega) (c_X9_firstI k (gT' (I 112) w F k) (by omega) (by omega) (by omega) (by omega) (by rw [upI_ne (by decide), upI_ne (by decide)]; exact hw2)) ?_
        rw [upI_ne (by decide), upI_ne (by decide), e2]
        refine mj_aload_n hJ dX9_goBy_160 rfl ?_
        refine mj_iload hJ dX9_goBy_161 rfl ?_
        refine mj_iload hJ dX9_goBy_163 rfl ?_
        refine mk_Vp2 hJ dX9_goBy_165 cw_X9_126 rfl rfl rfl rfl (Nat.le_of_ble_eq_true rfl) (by first | decide | omega) (c_X9_harm k (gP (I 112) w F k) (by omega) (by omega) (by omega) (by omega) (by rw [upI_ne (by decide), upI_ne (by decide)]; exact hw2)) ?_
        rw [upI_ne (by decide), upI_ne (by decide), e2]
        first | refine ms_isub hJ dX9_goBy_168 (by omega) ?_ | refine mj_isub hJ dX9_goBy_168 ?_
        rw [← eM]
        refine mk_iast hJ dX9_goBy_169 rfl (by omega) (by omega) ?_
        refine mj_iload_n hJ dX9_goBy_170 rfl ?_
        refine mj_aload_n hJ dX9_goBy_171 rfl ?_
        refine mk_getR hJ dX9_goBy_172 fw_X9_77 rfl (by decide) rfl rfl ?_
        refine mj_iload hJ dX9_goBy_175 rfl ?_
        refine mk_iald hJ dX9_goBy_177 rfl (by omega) (by omega) ?_
        rw [upI_at, if_pos rfl]
        first | refine ms_iadd hJ dX9_goBy_178 (by omega) ?_ | refine mj_iadd hJ dX9_goBy_178 ?_
        refine ms_istore_n (ls' := [_, _, _, _, _, _, _]) hJ dX9_goBy_179 (by decide) rfl rfl ?_
        refine ms_iinc (ls' := [_, _, _, _, _, _, _]) hJ dX9_goBy_180 rfl (by decide) rfl (wr_id (by omega)) rfl ?_
        refine mj_goto (tgt := 8) hJ dX9_goBy_183 (by decide) ?_
        refine mj_drop (ls' := [_, _, _, _, _, _, vu]) hJ ⟨Or.inl rfl, Or.inl rfl, Or.inl rfl, Or.inl rfl, Or.inl rfl, Or.inl rfl, Or.inr rfl, trivial⟩ ?_
        have e5 : gS (I 112) w F (k + 1) = gS (I 112) w F k + gM (I 112) w F k := rfl
        have := ih (k + 1) (upI (upI (upI I2 132 k (gL (I 112) w F k)) 133 k (gT' (I 112) w F k)) 134 k (gM (I 112) w F k)) (by omega) (fun c hc => by rw [upI_ne (by omega), upI_ne (by omega), upI_ne (by omega)]; exact hf2 c hc) (fun v a c => by
          rw [upI_ne (by decide), upI_ne (by decide), upI_ne (by decide), hg2 131 (by decide), upI_ne (by decide), upI_ne (by decide), upI_ne (by decide)]
          rw [upI_at, upI_at, upI_at, upI_at, hg2 132 (by decide), hg2 133 (by decide), hg2 134 (by decide), upI_ne (by decide), upI_ne (by decide), upI_ne (by decide)]
          by_cases e : v = k
          · subst e
            rw [if_pos rfl, if_pos rfl, if_pos rfl, if_pos rfl]
            exact ⟨rfl, rfl, rfl, rfl⟩
          · rw [if_neg e, if_neg e, if_neg e, if_neg e]
            exact hB v a (by omega))
        rw [e5, gab_succ] at this
        exact this
      have K63 : ∀ I2 : Ints, (∀ c, (c < 114 ∨ (114 ≤ c ∧ c < 130) ∨ 135 ≤ c) → I2 c = I c) → (∀ c, c ≠ 130 → I2 c = upI I1 131 k (gC (I 112) w F k) c) → J 63 [vr 111, vi w, vi p, vi (gS (I 112) w F k), vi (gab (I 112) w F k), vi k, vu] [vi (F k (gC (I 112) w F k))] (mk I2 b) := by
        intro I2 hf2 hg2
        have e131 : I2 131 k = gC (I 112) w F k := by rw [hg2 131 (by decide), upI_at, if_pos rfl]
        refine ms_istore (ls' := [_, _, _, _, _, _, _]) hJ dX9_goBy_63 (by decide) rfl rfl ?_
        refine mj_aload_n hJ dX9_goBy_65 rfl ?_
        refine mk_getR hJ dX9_goBy_66 fw_X9_71 rfl (by decide) rfl rfl ?_
        refine mj_iload hJ dX9_goBy_69 rfl ?_
        refine mj_iload hJ dX9_goBy_71 rfl ?_
        refine mj_aload_n hJ dX9_goBy_73 rfl ?_
        refine mk_getR hJ dX9_goBy_74 fw_X9_68 rfl (by decide) rfl rfl ?_
        refine mj_iload hJ dX9_goBy_77 rfl ?_
        refine mk_iald hJ dX9_goBy_79 rfl (by omega) (by omega) ?_
        rw [e131]
        refine mj_icmp_ge (tgt := 88) hJ dX9_goBy_80 (by decide) (fun hl => ?_) (fun hl => ?_)
        · refine mj_aload_n hJ dX9_goBy_88 rfl ?_
          refine mk_getR hJ dX9_goBy_89 fw_X9_68 rfl (by decide) rfl rfl ?_
          refine mj_iload hJ dX9_goBy_92 rfl ?_
          refine mk_iald hJ dX9_goBy_94 rfl (by omega) (by omega) ?_
          rw [e131]
          have := K95 I2 hf2 hg2
          rw [eL, if_neg (by omega)] at this
          exact this
        · refine mj_iload hJ dX9_goBy_83 rfl ?_
          refine mj_goto (tgt := 95) hJ dX9_goBy_85 (by decide) ?_
          have := K95 I2 hf2 hg2
          rw [eL, if_pos (by omega)] at this
          exact this
      have hf1 : ∀ c, (c < 114 ∨ (114 ≤ c ∧ c < 130) ∨ 135 ≤ c) → upI I1 131 k (gC (I 112) w F k) c = I c := fun c hc => by rw [upI_ne (by omega)]; exact hf c hc
      refine mj_if_lt (tgt := 49) hJ dX9_goBy_42 (by decide) (fun hp => ?_) (fun hp => ?_)
      · have eF : F k (gC (I 112) w F k) = told w (gC (I 112) w F k) (I 112 (10 + 18 * (k : Int) + 0)) k T 0 := by
          rw [← hTF]
          unfold TF
          rw [if_neg (by omega)]
        refine mj_aload_n hJ dX9_goBy_49 rfl ?_
        refine mj_iload_n hJ dX9_goBy_50 rfl ?_
        refine mj_iload hJ dX9_goBy_51 rfl ?_
        refine mj_aload_n hJ dX9_goBy_53 rfl ?_
        refine mk_getR hJ dX9_goBy_54 fw_X9_68 rfl (by decide) rfl rfl ?_
        refine mj_iload hJ dX9_goBy_57 rfl ?_
        refine mk_iald hJ dX9_goBy_59 rfl (by omega) (by omega) ?_
        rw [upI_at, if_pos rfl]
        have hL := c_X9_letsOf (G := G) (I := upI I1 131 k (gC (I 112) w F k)) (b := b) w k (gC (I 112) w F k) T (by rw [hf1 112 (by omega)]; exact hw) (by rw [hf1 112 (by omega)]; exact hT) w0 w1 (by omega) (by omega) (by omega) (by omega)
        rw [hf1 112 (by omega), ← eF] at hL
        refine mk_Vi3 hJ dX9_goBy_60 cw_X9_268 rfl rfl rfl rfl (Nat.le_of_ble_eq_true rfl) (by first | decide | omega) (hL) (fun z I2 b2 hq9 => ?_)
        obtain ⟨rfl, rfl, hf2⟩ := hq9
        exact K63 I2 (fun c hc => by rw [hf2 c (by omega)]; exact hf1 c hc) hf2
      · have eF : F k (gC (I 112) w F k) = p := by
          rw [← hTF]
          unfold TF
          rw [if_pos (by omega)]
        refine mj_iload_n hJ dX9_goBy_45 rfl ?_
        refine mj_goto (tgt := 63) hJ dX9_goBy_46 (by decide) ?_
        have := K63 _ hf1 (fun _ _ => rfl)
        rw [eF] at this
        exact this
  refine mj_iconst hJ dX9_goBy_0 (by decide) ?_
  refine ms_istore_n (ls' := [_, _, _, _, _, _, _]) hJ dX9_goBy_1 (by decide) rfl rfl ?_
  refine mj_iconst hJ dX9_goBy_2 (by decide) ?_
  refine ms_istore (ls' := [_, _, _, _, _, _, _]) hJ dX9_goBy_3 (by decide) rfl rfl ?_
  refine mj_iconst hJ dX9_goBy_5 (by decide) ?_
  refine ms_istore (ls' := [_, _, _, _, _, _, _]) hJ dX9_goBy_6 (by decide) rfl rfl ?_
  exact loop (I 112 0).toNat 0 I (by omega) (fun _ _ => rfl) (fun v a c => absurd c (by omega))
end M17
