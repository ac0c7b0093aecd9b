section M17
variable {G : GE} {I : Ints} {b : Bool}
theorem c_X9_letsOf (w v c : Int) (T : List Ln) (hw : WN (I 112)) (hT : TM (I 112) T) (w0 : 0 ≤ w) (w1 : w ≤ 20) (v0 : 0 ≤ v) (v1 : v < 6) (c0 : 0 ≤ c) (c1 : c ≤ 200) :
    MtI G yX9_letsOf cX9_letsOf 7 (some .int) 3 [vr 111, vi w, vi v, vi c] I b (fun z I' b' => z = told w c (I 112 (10 + 18 * v + 0)) v T 0 ∧ b' = b ∧ ∀ c, c ≠ 130 → I' c = I c) := by
  refine mt_enterI (own := RX9) (ls0 := [vr 111, vi w, vi v, vi c, vu, vu, vu]) rfl (by decide +kernel) (Nat.le_of_ble_eq_true rfl) rfl rfl (fun J hJ hR => ?_)
  have hl := hT.1
  have hl8 := hT.2.1
  have LOOP : ∀ (L : List Ln) (l p a : Int) (I1 : Ints), 0 ≤ l → 0 ≤ p → l + L.length = T.length → tml (I 112) l p L → (∀ c, c ≠ 130 → I1 c = I c) → told w c (I 112 (10 + 18 * v + 0)) v L a = told w c (I 112 (10 + 18 * v + 0)) v T 0 → J 6 [vr 111, vi w, vi v, vi c, vi a, vi l, vu] [] (mk I1 b) := by
    intro L
    induction L with
    | nil =>
      intro l p a I1 l0 p0 hll ht hf he
      have hll : l = T.length := by rw [← hll]; simp
      refine mj_iload hJ dX9_letsOf_6 rfl ?_
      refine mj_aload_n hJ dX9_letsOf_8 rfl ?_
      refine mk_getR hJ dX9_letsOf_9 fw_X9_9 rfl (by decide) rfl rfl ?_
      refine mj_iconst hJ dX9_letsOf_12 (by decide) ?_
      refine mk_iald hJ dX9_letsOf_13 rfl (by omega) (by omega) ?_
      rw [hf 112 (by decide)]
      refine mj_icmp_ge (tgt := 84) hJ dX9_letsOf_14 (by decide) (fun _ => ?_) (fun hno => absurd (by omega) hno)
      refine mj_iload hJ dX9_letsOf_84 rfl ?_
      exact hR _ _ _ _ _ dX9_letsOf_86 nar_i ⟨he, rfl, hf⟩
    | cons t L ih =>
      obtain ⟨lv, m, S⟩ := t
      intro l p a I1 l0 p0 hll ht hf he
      have hll2 : l + 1 + (L.length : Int) = T.length := by rw [← hll, List.length_cons]; omega
      have e112 := hf 112 (by decide)
      have ht1 := ht.1
      have ht2 := ht.2.1
      have hle := tml_le L (l + 1) _ ht.2.2
      have he2 : told w c (I 112 (10 + 18 * v + 0)) v L (if lv = v ∧ evo w c (I 112 (10 + 18 * v + 0)) S = true then m else a) = told w c (I 112 (10 + 18 * v + 0)) v T 0 := he
      have K76 : ∀ (I2 : Ints) (x y : Int), (∀ c, c ≠ 130 → I2 c = I c) → x = (if lv = v ∧ evo w c (I 112 (10 + 18 * v + 0)) S = true then m else a) → J 76 [vr 111, vi w, vi v, vi c, vi a, vi l, vi y] [vi x] (mk I2 b) := by
        intro I2 x y hf2 hx
        refine ms_istore (ls' := [_, _, _, _, _, _, _]) hJ dX9_letsOf_76 (by decide) rfl rfl ?_
        refine ms_iinc (ls' := [_, _, _, _, _, _, _]) hJ dX9_letsOf_78 rfl (by decide) rfl (wr_id (by omega)) rfl ?_
        refine mj_goto (tgt := 6) hJ dX9_letsOf_81 (by decide) ?_
        refine mj_drop (ls' := [_, _, _, _, _, _, vu]) hJ ⟨Or.inl rfl, Or.inl rfl, Or.inl rfl, Or.inl rfl, Or.inl rfl, Or.inl rfl, Or.inr rfl, trivial⟩ ?_
        rw [hx]
        exact ih (l + 1) _ _ I2 (by omega) (by omega) hll2 ht.2.2 hf2 he2
      have K49 : ∀ (I2 : Ints), (∀ c, c ≠ 130 → I2 c = I c) → ¬(lv = v ∧ evo w c (I 112 (10 + 18 * v + 0)) S = true) → J 49 [vr 111, vi w, vi v, vi c, vi a, vi l, vu] [] (mk I2 b) := by
        intro I2 hf2 hno
        refine mj_iconst hJ dX9_letsOf_49 (by decide) ?_
        refine ms_istore (ls' := [_, _, _, _, _, _, _]) hJ dX9_letsOf_50 (by decide) rfl rfl ?_
        refine mj_iload hJ dX9_letsOf_52 rfl ?_
        refine mj_if_eq (tgt := 74) hJ dX9_letsOf_54 (by decide) (fun _ => ?_) (fun hno => absurd rfl hno)
        refine mj_iload hJ dX9_letsOf_74 rfl ?_
        exact K76 I2 a 0 hf2 (by rw [if_neg hno])
      refine mj_iload hJ dX9_letsOf_6 rfl ?_
      refine mj_aload_n hJ dX9_letsOf_8 rfl ?_
      refine mk_getR hJ dX9_letsOf_9 fw_X9_9 rfl (by decide) rfl rfl ?_
      refine mj_iconst hJ dX9_letsOf_12 (by decide) ?_
      refine mk_iald hJ dX9_letsOf_13 rfl (by omega) (by omega) ?_
      rw [e112]
      refine mj_icmp_ge (tgt := 84) hJ dX9_letsOf_14 (by decide) (fun hyes => absurd hyes (by omega)) (fun _ => ?_)
      refine mj_aload_n hJ dX9_letsOf_17 rfl ?_
      refine mk_getR hJ dX9_letsOf_18 fw_X9_9 rfl (by decide) rfl rfl ?_
      refine mj_bipush hJ dX9_letsOf_21 (by decide) ?_
      refine mj_iconst hJ dX9_letsOf_23 (by decide) ?_
      refine mj_iload hJ dX9_letsOf_24 rfl ?_
      first | refine ms_imul hJ dX9_letsOf_26 (by omega) ?_ | refine mj_imul hJ dX9_letsOf_26 ?_
      first | refine ms_iadd hJ dX9_letsOf_27 (by omega) ?_ | refine mj_iadd hJ dX9_letsOf_27 ?_
      refine mk_iald hJ dX9_letsOf_28 rfl (by omega) (by omega) ?_
      rw [e112, ht1.1]
      refine mj_iload_n hJ dX9_letsOf_29 rfl ?_
      refine mj_icmp_ne (tgt := 49) hJ dX9_letsOf_30 (by decide) (fun h => ?_) (fun h => ?_)
      · exact K49 I1 hf (fun q => h q.1)
      · have hH := c_X9_holds (G := G) (I := I1) (b := b) l w v c p S (by rw [e112]; exact hw) l0 (by omega) w0 w1 v0 v1 c0 c1 p0 (by rw [e112]; exact ht1.2.2.1) (by rw [e112]; exact ht1.2.2.2) (by omega) ht2.2.2.1 (by rw [e112]; exact ht2.2.2.2)
        rw [e112] at hH
        refine mj_aload_n hJ dX9_letsOf_33 rfl ?_
        refine mj_iload hJ dX9_letsOf_34 rfl ?_
        refine mj_iload_n hJ dX9_letsOf_36 rfl ?_
        refine mj_iload_n hJ dX9_letsOf_37 rfl ?_
        refine mj_iload_n hJ dX9_letsOf_38 rfl ?_
        refine mk_Vi4 hJ dX9_letsOf_39 cw_X9_264 rfl rfl rfl rfl (Nat.le_of_ble_eq_true rfl) (by first | decide | omega) (hH) (fun z I2 b2 hq9 => ?_)
        obtain ⟨rfl, rfl, hf2⟩ := hq9
        have hf3 : ∀ c, c ≠ 130 → I2 c = I c := fun c hc => (hf2 c hc).trans (hf c hc)
        by_cases h2 : evo w c (I 112 (10 + 18 * v + 0)) S = true
        · rw [if_pos h2]
          refine mj_if_eq (tgt := 49) hJ dX9_letsOf_42 (by decide) (fun hyes => absurd hyes (by decide)) (fun _ => ?_)
          refine mj_iconst hJ dX9_letsOf_45 (by decide) ?_
          refine mj_goto (tgt := 50) hJ dX9_letsOf_46 (by decide) ?_
          refine ms_istore (ls' := [_, _, _, _, _, _, _]) hJ dX9_letsOf_50 (by decide) rfl rfl ?_
          refine mj_iload hJ dX9_letsOf_52 rfl ?_
          refine mj_if_eq (tgt := 74) hJ dX9_letsOf_54 (by decide) (fun hyes => absurd hyes (by decide)) (fun _ => ?_)
          refine mj_aload_n hJ dX9_letsOf_57 rfl ?_
          refine mk_getR hJ dX9_letsOf_58 fw_X9_9 rfl (by decide) rfl rfl ?_
          refine mj_bipush hJ dX9_letsOf_61 (by decide) ?_
          refine mj_iconst hJ dX9_letsOf_63 (by decide) ?_
          refine mj_iload hJ dX9_letsOf_64 rfl ?_
          first | refine ms_imul hJ dX9_letsOf_66 (by omega) ?_ | refine mj_imul hJ dX9_letsOf_66 ?_
          first | refine ms_iadd hJ dX9_letsOf_67 (by omega) ?_ | refine mj_iadd hJ dX9_letsOf_67 ?_
          refine mj_iconst hJ dX9_letsOf_68 (by decide) ?_
          first | refine ms_iadd hJ dX9_letsOf_69 (by omega) ?_ | refine mj_iadd hJ dX9_letsOf_69 ?_
          refine mk_iald hJ dX9_letsOf_70 rfl (by omega) (by omega) ?_
          rw [hf3 112 (by decide), ht1.2.1]
          refine mj_goto (tgt := 76) hJ dX9_letsOf_71 (by decide) ?_
          exact K76 I2 m 1 hf3 (by rw [if_pos ⟨by omega, h2⟩])
        · rw [if_neg h2]
          refine mj_if_eq (tgt := 49) hJ dX9_letsOf_42 (by decide) (fun _ => ?_) (fun hno => absurd rfl hno)
          exact K49 I2 hf3 (fun q => h2 q.2)
  refine mj_iconst hJ dX9_letsOf_0 (by decide) ?_
  refine ms_istore (ls' := [_, _, _, _, _, _, _]) hJ dX9_letsOf_1 (by decide) rfl rfl ?_
  refine mj_iconst hJ dX9_letsOf_3 (by decide) ?_
  refine ms_istore (ls' := [_, _, _, _, _, _, _]) hJ dX9_letsOf_4 (by decide) rfl rfl ?_
  exact LOOP T 0 0 0 I (by omega) (by omega) (by omega) hT.2.2 (fun _ _ => rfl) rfl
theorem c_X9_goBy (w p : Int) (T : List Ln) (hw : WN (I 112)) (hT : TM (I 112) T) (w0 : 0 ≤ w) (w1 : w ≤ 20) (p0 : -1 ≤ p) (p1 : p ≤ 24) :
    MtI G yX9_goBy cX9_goBy 7 (some .int) 4 [vr 111, vi w, vi p] I b (fun z I' b' => z = gS (I 112) w (TF (I 112) T w p) (I 112 0).toNat ∧ b' = b ∧ (∀ c, (c < 114 ∨ (114 ≤ c ∧ c < 130) ∨ 135 ≤ c) → I' c = I c) ∧ ∀ v, 0 ≤ v → v < I 112 0 → I' 131 v = gC (I 112) w (TF (I 112) T w p) v ∧ I' 132 v = gL (I 112) w (TF (I 112) T w p) v ∧ I' 133 v = gT' (I 112) w (TF (I 112) T w p) v ∧ I' 134 v = gM (I 112) w (TF (I 112) T w p) v) := by
  refine mt_enterI (own := RX9) (ls0 := [vr 111, vi w, vi p, vu, vu, vu, vu]) rfl (by decide +kernel) (Nat.le_of_ble_eq_true rfl) rfl rfl (fun J hJ hR => ?_)
  have hn := hw.nv
  have hnn : ∀ v c, 0 ≤ TF (I 112) T w p v c := fun v c => TF_nn hT w p v c
  generalize hTF : TF (I 112) T w p = F at hnn
  have loop : ∀ (m k : Nat) (I1 : Ints), (k + m : Int) = I 112 0 → (∀ c, (c < 114 ∨ (114 ≤ c ∧ c < 130) ∨ 135 ≤ c) → I1 c = I c) → (∀ v : Int, 0 ≤ v → v < k → I1 131 v = gC (I 112) w F v ∧ I1 132 v = gL (I 112) w F v ∧ I1 133 v = gT' (I 112) w F v ∧ I1 134 v = gM (I 112) w F v) → J 8 [vr 111, vi w, vi p, vi (gS (I 112) w F k), vi (gab (I 112) w F k), vi k, vu] [] (mk I1 b) := by
    intro m
    induction m with
    | zero =>
      intro k I1 hk hf hB
      refine mj_iload hJ dX9_goBy_8 rfl ?_
      refine mj_aload_n hJ dX9_goBy_10 rfl ?_
      refine mk_getR hJ dX9_goBy_11 fw_X9_9 rfl (by decide) rfl rfl ?_
      refine mj_iconst hJ dX9_goBy_14 (by decide) ?_
      refine mk_iald hJ dX9_goBy_15 rfl (by omega) (by omega) ?_
      rw [hf 112 (by omega)]
      refine mj_icmp_ge (tgt := 186) hJ dX9_goBy_16 (by decide) (fun _ => ?_) (fun hno => absurd (by omega) hno)
      refine mj_iload_n hJ dX9_goBy_186 rfl ?_
      exact hR _ _ _ _ _ dX9_goBy_187 nar_i ⟨by rw [hTF, show k = (I 112 0).toNat by omega], rfl, hf, by rw [hTF]; exact fun v a c => hB v a (by omega)⟩
    | succ m ih =>
      intro k I1 hk hf hB
      have e112 := hf 112 (by omega)
      have g := g_bd hw w0 w1 hnn (v := k) (by omega) (by omega)
      have gb := gab_bd hw w0 w1 hnn k (by omega)
      have sb := gS_bd hw w0 w1 hnn k (by omega)
      have fl := (hw.fact (v := k) (by omega) (by omega)).1
      have mb := mul_bd (a := I 112 (10 + 18 * (k : Int) + 0)) (A := 12) (b := w) (B := 20) fl.1 fl.2 w0 w1
      have ib := infl_bd hw (v := k) (by omega) (by omega) w0 w1
      have ei : (I 112 (10 + 18 * (k : Int) + 0) * w).tdiv 10 = infl (I 112) w k := rfl
      have eC : gab (I 112) w F k + infl (I 112) w k = gC (I 112) w F k := by unfold gC; rw [Int.toNat_natCast]
      have eL : gL (I 112) w F k = if F k (gC (I 112) w F k) < gC (I 112) w F k then F k (gC (I 112) w F k) else gC (I 112) w F k := rfl
      have eT : gT' (I 112) w F k = cu (I 112) k (gC (I 112) w F k - gL (I 112) w F k) := rfl
      have eP : gP (I 112) w F k = gC (I 112) w F k - gT' (I 112) w F k := rfl
      have eM : gM (I 112) w F k = fst (I 112) k (gT' (I 112) w F k).toNat - hrm (I 112) k (gP (I 112) w F k) := rfl
      have fb := fst_bd hw (v := k) (by omega) (by omega) (gT' (I 112) w F k).toNat (by omega)
      have hb := hrm_bd hw (v := k) (by omega) (by omega) (p := gP (I 112) w F k) (by omega) (by omega)
      refine mj_iload hJ dX9_goBy_8 rfl ?_
      refine mj_aload_n hJ dX9_goBy_10 rfl ?_
      refine mk_getR hJ dX9_goBy_11 fw_X9_9 rfl (by decide) rfl rfl ?_
      refine mj_iconst hJ dX9_goBy_14 (by decide) ?_
      refine mk_iald hJ dX9_goBy_15 rfl (by omega) (by omega) ?_
      rw [e112]
      refine mj_icmp_ge (tgt := 186) hJ dX9_goBy_16 (by decide) (fun hyes => absurd hyes (by omega)) (fun _ => ?_)
      refine mj_aload_n hJ dX9_goBy_19 rfl ?_
      refine mk_getR hJ dX9_goBy_20 fw_X9_68 rfl (by decide) rfl rfl ?_
      refine mj_iload hJ dX9_goBy_23 rfl ?_
      refine mj_iload hJ dX9_goBy_25 rfl ?_
      refine mj_aload_n hJ dX9_goBy_27 rfl ?_
      refine mj_iload hJ dX9_goBy_28 rfl ?_
      refine mj_iconst hJ dX9_goBy_30 (by decide) ?_
      refine mk_Vp2 hJ dX9_goBy_31 cw_X9_116 rfl rfl rfl rfl (Nat.le_of_ble_eq_true rfl) (by first | decide | omega) (c_X9_of k 0 (by omega) (by omega) (by omega) (by omega)) ?_
      rw [e112]
      refine mj_iload_n hJ dX9_goBy_34 rfl ?_
      first | refine ms_imul hJ dX9_goBy_35 (by omega) ?_ | refine mj_imul hJ dX9_goBy_35 ?_
      refine mj_bipush hJ dX9_goBy_36 (by decide) ?_
      refine ms_idiv hJ dX9_goBy_38 (by omega) (by omega) ?_
      rw [ei]
      first | refine ms_iadd hJ dX9_goBy_39 (by omega) ?_ | refine mj_iadd hJ dX9_goBy_39 ?_
      rw [eC]
      refine mk_iast hJ dX9_goBy_40 rfl (by omega) (by omega) ?_
      refine mj_iload_n hJ dX9_goBy_41 rfl ?_
      -- behind what it is told
      have K95 : ∀ I2 : Ints, (∀ c, (c < 114 ∨ (114 ≤ c ∧ c < 130) ∨ 135 ≤ c) → I2 c = I c) → (∀ c, c ≠ 130 → I2 c = upI I1 131 k (gC (I 112) w F k) c) → J 95 [vr 111, vi w, vi p, vi (gS (I 112) w F k), vi (gab (I 112) w F k), vi k, vi (F k (gC (I 112) w F k))] [vi (gL (I 112) w F k), vi k, vr 132] (mk I2 b) := by
        intro I2 hf2 hg2
        have e2 := hf2 112 (by omega)
        have hw2 : WN (I2 112) := by rw [e2]; exact hw
        refine mk_iast hJ dX9_goBy_95 rfl (by omega) (by omega) ?_
        refine mj_aload_n hJ dX9_goBy_96 rfl ?_
        refine mk_getR hJ dX9_goBy_97 fw_X9_74 rfl (by decide) rfl rfl ?_
        refine mj_iload hJ dX9_goBy_100 rfl ?_
        refine mj_aload_n hJ dX9_goBy_102 rfl ?_
        refine mj_iload hJ dX9_goBy_103 rfl ?_
        refine mj_aload_n hJ dX9_goBy_105 rfl ?_
        refine mk_getR hJ dX9_goBy_106 fw_X9_68 rfl (by decide) rfl rfl ?_
        refine mj_iload hJ dX9_goBy_109 rfl ?_
        refine mk_iald hJ dX9_goBy_111 rfl (by omega) (by omega) ?_
        rw [upI_ne (by decide), hg2 131 (by decide), upI_at, if_pos rfl]
        refine mj_aload_n hJ dX9_goBy_112 rfl ?_
        refine mk_getR hJ dX9_goBy_113 fw_X9_71 rfl (by decide) rfl rfl ?_
        refine mj_iload hJ dX9_goBy_116 rfl ?_
        refine mk_iald hJ dX9_goBy_118 rfl (by omega) (by omega) ?_
        rw [upI_at, if_pos rfl]
        first | refine ms_isub hJ dX9_goBy_119 (by omega) ?_ | refine mj_isub hJ dX9_goBy_119 ?_
        refine mk_Vp2 hJ dX9_goBy_120 cw_X9_151 rfl rfl rfl rfl (Nat.le_of_ble_eq_true rfl) (by first | decide | omega) (c_X9_canUse k _ (by omega) (by omega)) ?_
        rw [upI_ne (by decide), e2, ← eT]
        refine mk_iast hJ dX9_goBy_123 rfl (by omega) (by omega) ?_
        refine mj_aload_n hJ dX9_goBy_124 rfl ?_
        refine mk_getR hJ dX9_goBy_125 fw_X9_68 rfl (by decide) rfl rfl ?_
        refine mj_iload hJ dX9_goBy_128 rfl ?_
        refine mk_iald hJ dX9_goBy_130 rfl (by omega) (by omega) ?_
        rw [upI_ne (by decide), upI_ne (by decide), hg2 131 (by decide), upI_at, if_pos rfl]
        refine mj_aload_n hJ dX9_goBy_131 rfl ?_
        refine mk_getR hJ dX9_goBy_132 fw_X9_74 rfl (by decide) rfl rfl ?_
        refine mj_iload hJ dX9_goBy_135 rfl ?_
        refine mk_iald hJ dX9_goBy_137 rfl (by omega) (by omega) ?_
        rw [upI_at, if_pos rfl]
        first | refine ms_isub hJ dX9_goBy_138 (by omega) ?_ | refine mj_isub hJ dX9_goBy_138 ?_
        rw [← eP]
        refine ms_istore (ls' := [_, _, _, _, _, _, _]) hJ dX9_goBy_139 (by decide) rfl rfl ?_
        refine mj_aload_n hJ dX9_goBy_141 rfl ?_
        refine mk_getR hJ dX9_goBy_142 fw_X9_77 rfl (by decide) rfl rfl ?_
        refine mj_iload hJ dX9_goBy_145 rfl ?_
        refine mj_aload_n hJ dX9_goBy_147 rfl ?_
        refine mj_iload hJ dX9_goBy_148 rfl ?_
        refine mj_aload_n hJ dX9_goBy_150 rfl ?_
        refine mk_getR hJ dX9_goBy_151 fw_X9_74 rfl (by decide) rfl rfl ?_
        refine mj_iload hJ dX9_goBy_154 rfl ?_
        refine mk_iald hJ dX9_goBy_156 rfl (by omega) (by omega) ?_
        rw [upI_at, if_pos rfl]
        refine mk_Vp2 hJ dX9_goBy_157 cw_X9_123 rfl rfl rfl rfl (Nat.le_of_ble_eq_true rfl) (by first | decide | omega) (c_X9_firstI k (gT' (I 112) w F k) (by omega) (by omega) (by omega) (by omega) (by rw [upI_ne (by decide), upI_ne (by decide)]; exact hw2)) ?_
        rw [upI_ne (by decide), upI_ne (by decide), e2]
        refine mj_aload_n hJ dX9_goBy_160 rfl ?_
        refine mj_iload hJ dX9_goBy_161 rfl ?_
        refine mj_iload hJ dX9_goBy_163 rfl ?_
        refine mk_Vp2 hJ dX9_goBy_165 cw_X9_126 rfl rfl rfl rfl (Nat.le_of_ble_eq_true rfl) (by first | decide | omega) (c_X9_harm k (gP (I 112) w F k) (by omega) (by omega) (by omega) (by omega) (by rw [upI_ne (by decide), upI_ne (by decide)]; exact hw2)) ?_
        rw [upI_ne (by decide), upI_ne (by decide), e2]
        first | refine ms_isub hJ dX9_goBy_168 (by omega) ?_ | refine mj_isub hJ dX9_goBy_168 ?_
        rw [← eM]
        refine mk_iast hJ dX9_goBy_169 rfl (by omega) (by omega) ?_
        refine mj_iload_n hJ dX9_goBy_170 rfl ?_
        refine mj_aload_n hJ dX9_goBy_171 rfl ?_
        refine mk_getR hJ dX9_goBy_172 fw_X9_77 rfl (by decide) rfl rfl ?_
        refine mj_iload hJ dX9_goBy_175 rfl ?_
        refine mk_iald hJ dX9_goBy_177 rfl (by omega) (by omega) ?_
        rw [upI_at, if_pos rfl]
        first | refine ms_iadd hJ dX9_goBy_178 (by omega) ?_ | refine mj_iadd hJ dX9_goBy_178 ?_
        refine ms_istore_n (ls' := [_, _, _, _, _, _, _]) hJ dX9_goBy_179 (by decide) rfl rfl ?_
        refine ms_iinc (ls' := [_, _, _, _, _, _, _]) hJ dX9_goBy_180 rfl (by decide) rfl (wr_id (by omega)) rfl ?_
        refine mj_goto (tgt := 8) hJ dX9_goBy_183 (by decide) ?_
        refine mj_drop (ls' := [_, _, _, _, _, _, vu]) hJ ⟨Or.inl rfl, Or.inl rfl, Or.inl rfl, Or.inl rfl, Or.inl rfl, Or.inl rfl, Or.inr rfl, trivial⟩ ?_
        have e5 : gS (I 112) w F (k + 1) = gS (I 112) w F k + gM (I 112) w F k := rfl
        have := ih (k + 1) (upI (upI (upI I2 132 k (gL (I 112) w F k)) 133 k (gT' (I 112) w F k)) 134 k (gM (I 112) w F k)) (by omega) (fun c hc => by rw [upI_ne (by omega), upI_ne (by omega), upI_ne (by omega)]; exact hf2 c hc) (fun v a c => by
          have d : ∀ q : Nat, q ≠ 131 → q ≠ 130 → I2 q = I1 q := fun q q1 q2 => by rw [hg2 q q2, upI_ne q1]
          by_cases e : v = k
          · subst e
            exact ⟨by rw [upI_ne (by decide), upI_ne (by decide), upI_ne (by decide), hg2 131 (by decide), upI_at, if_pos rfl], by rw [upI_ne (by decide), upI_ne (by decide), upI_at, if_pos rfl], by rw [upI_ne (by decide), upI_at, if_pos rfl], by rw [upI_at, if_pos rfl]⟩
          · have hB := hB v a (by omega)
            exact ⟨by rw [upI_ne (by decide), upI_ne (by decide), upI_ne (by decide), hg2 131 (by decide), upI_at, if_neg e]; exact hB.1, by rw [upI_ne (by decide), upI_ne (by decide), upI_at, if_neg e, d 132 (by decide) (by decide)]; exact hB.2.1, by rw [upI_ne (by decide), upI_at, if_neg e, upI_ne (by decide), d 133 (by decide) (by decide)]; exact hB.2.2.1, by rw [upI_at, if_neg e, upI_ne (by decide), upI_ne (by decide), d 134 (by decide) (by decide)]; exact hB.2.2.2⟩)
        rw [e5, gab_succ] at this
        exact this
      have K63 : ∀ I2 : Ints, (∀ c, (c < 114 ∨ (114 ≤ c ∧ c < 130) ∨ 135 ≤ c) → I2 c = I c) → (∀ c, c ≠ 130 → I2 c = upI I1 131 k (gC (I 112) w F k) c) → J 63 [vr 111, vi w, vi p, vi (gS (I 112) w F k), vi (gab (I 112) w F k), vi k, vu] [vi (F k (gC (I 112) w F k))] (mk I2 b) := by
        intro I2 hf2 hg2
        have e131 : I2 131 k = gC (I 112) w F k := by rw [hg2 131 (by decide), upI_at, if_pos rfl]
        refine ms_istore (ls' := [_, _, _, _, _, _, _]) hJ dX9_goBy_63 (by decide) rfl rfl ?_
        refine mj_aload_n hJ dX9_goBy_65 rfl ?_
        refine mk_getR hJ dX9_goBy_66 fw_X9_71 rfl (by decide) rfl rfl ?_
        refine mj_iload hJ dX9_goBy_69 rfl ?_
        refine mj_iload hJ dX9_goBy_71 rfl ?_
        refine mj_aload_n hJ dX9_goBy_73 rfl ?_
        refine mk_getR hJ dX9_goBy_74 fw_X9_68 rfl (by decide) rfl rfl ?_
        refine mj_iload hJ dX9_goBy_77 rfl ?_
        refine mk_iald hJ dX9_goBy_79 rfl (by omega) (by omega) ?_
        rw [e131]
        refine mj_icmp_ge (tgt := 88) hJ dX9_goBy_80 (by decide) (fun hl => ?_) (fun hl => ?_)
        · refine mj_aload_n hJ dX9_goBy_88 rfl ?_
          refine mk_getR hJ dX9_goBy_89 fw_X9_68 rfl (by decide) rfl rfl ?_
          refine mj_iload hJ dX9_goBy_92 rfl ?_
          refine mk_iald hJ dX9_goBy_94 rfl (by omega) (by omega) ?_
          rw [e131]
          have := K95 I2 hf2 hg2
          rw [eL, if_neg (by omega)] at this
          exact this
        · refine mj_iload hJ dX9_goBy_83 rfl ?_
          refine mj_goto (tgt := 95) hJ dX9_goBy_85 (by decide) ?_
          have := K95 I2 hf2 hg2
          rw [eL, if_pos (by omega)] at this
          exact this
      have hf1 : ∀ c, (c < 114 ∨ (114 ≤ c ∧ c < 130) ∨ 135 ≤ c) → upI I1 131 k (gC (I 112) w F k) c = I c := fun c hc => by rw [upI_ne (by omega)]; exact hf c hc
      refine mj_if_lt (tgt := 49) hJ dX9_goBy_42 (by decide) (fun hp => ?_) (fun hp => ?_)
      · have eF : F k (gC (I 112) w F k) = told w (gC (I 112) w F k) (I 112 (10 + 18 * (k : Int) + 0)) k T 0 := by
          rw [← hTF]
          unfold TF
          rw [if_neg (by omega)]
        refine mj_aload_n hJ dX9_goBy_49 rfl ?_
        refine mj_iload_n hJ dX9_goBy_50 rfl ?_
        refine mj_iload hJ dX9_goBy_51 rfl ?_
        refine mj_aload_n hJ dX9_goBy_53 rfl ?_
        refine mk_getR hJ dX9_goBy_54 fw_X9_68 rfl (by decide) rfl rfl ?_
        refine mj_iload hJ dX9_goBy_57 rfl ?_
        refine mk_iald hJ dX9_goBy_59 rfl (by omega) (by omega) ?_
        rw [upI_at, if_pos rfl]
        have hL := c_X9_letsOf (G := G) (I := upI I1 131 k (gC (I 112) w F k)) (b := b) w k (gC (I 112) w F k) T (by rw [hf1 112 (by omega)]; exact hw) (by rw [hf1 112 (by omega)]; exact hT) w0 w1 (by omega) (by omega) (by omega) (by omega)
        rw [hf1 112 (by omega), ← eF] at hL
        refine mk_Vi3 hJ dX9_goBy_60 cw_X9_268 rfl rfl rfl rfl (Nat.le_of_ble_eq_true rfl) (by first | decide | omega) (hL) (fun z I2 b2 hq9 => ?_)
        obtain ⟨rfl, rfl, hf2⟩ := hq9
        exact K63 I2 (fun c hc => by rw [hf2 c (by omega)]; exact hf1 c hc) hf2
      · have eF : F k (gC (I 112) w F k) = p := by
          rw [← hTF]
          unfold TF
          rw [if_pos (by omega)]
        refine mj_iload_n hJ dX9_goBy_45 rfl ?_
        refine mj_goto (tgt := 63) hJ dX9_goBy_46 (by decide) ?_
        have := K63 _ hf1 (fun _ _ => rfl)
        rw [eF] at this
        exact this
  refine mj_iconst hJ dX9_goBy_0 (by decide) ?_
  refine ms_istore_n (ls' := [_, _, _, _, _, _, _]) hJ dX9_goBy_1 (by decide) rfl rfl ?_
  refine mj_iconst hJ dX9_goBy_2 (by decide) ?_
  refine ms_istore (ls' := [_, _, _, _, _, _, _]) hJ dX9_goBy_3 (by decide) rfl rfl ?_
  refine mj_iconst hJ dX9_goBy_5 (by decide) ?_
  refine ms_istore (ls' := [_, _, _, _, _, _, _]) hJ dX9_goBy_6 (by decide) rfl rfl ?_
  exact loop (I 112 0).toNat 0 I (by omega) (fun _ _ => rfl) (fun v a c => absurd c (by omega))
theorem c_X9_treaty (w v x : Int) (T : List Ln) (hw : WN (I 112)) (hT : TM (I 112) T) : MtI G yX9_treaty cX9_treaty 5 (some .int) 5 [vr 111, vi w, vi v, vi x] I b (Qs I b (F_treaty I T w v x)) := by
  refine mt_enterI (own := RX9) (ls0 := [vr 111, vi w, vi v, vi x, vu]) rfl (by decide +kernel) (Nat.le_of_ble_eq_true rfl) rfl rfl (fun J hJ hR => ?_)
  have hn := hw.nv
  have no : ¬((0 ≤ w ∧ w ≤ 20) ∧ (0 ≤ v ∧ v < I 112 0) ∧ (0 ≤ x ∧ x ≤ 3)) → J 27 [vr 111, vi w, vi v, vi x, vu] [] (mk I b) := by
    intro hno
    refine mj_ldc (z := -1000001) hJ dX9_treaty_27 (by decide) ct_X9_140 ?_
    exact hR _ _ _ _ _ dX9_treaty_29 nar_i ⟨by unfold F_treaty; rw [if_neg hno], rfl, Same.rfl'⟩
  refine mj_iload_n hJ dX9_treaty_0 rfl ?_
  refine mj_iconst hJ dX9_treaty_1 (by decide) ?_
  refine mj_bipush hJ dX9_treaty_2 (by decide) ?_
  refine mk_Sp3 hJ dX9_treaty_4 cw_X9_104 rfl (Nat.le_of_ble_eq_true rfl) (by first | decide | omega) (c_X9_in w 0 20) ?_
  by_cases h : 0 ≤ w ∧ w ≤ 20
  · rw [if_pos h]
    refine mj_if_eq (tgt := 27) hJ dX9_treaty_7 (by decide) (fun hyes => absurd hyes (by decide)) (fun _ => ?_)
    refine mj_aload_n hJ dX9_treaty_10 rfl ?_
    refine mj_iload_n hJ dX9_treaty_11 rfl ?_
    refine mk_Vp1 hJ dX9_treaty_12 cw_X9_112 rfl rfl rfl rfl (Nat.le_of_ble_eq_true rfl) (by first | decide | omega) (c_X9_isVillage v hn.1 hn.2) ?_
    by_cases h2 : 0 ≤ v ∧ v < I 112 0
    · rw [if_pos h2]
      refine mj_if_eq (tgt := 27) hJ dX9_treaty_15 (by decide) (fun hyes => absurd hyes (by decide)) (fun _ => ?_)
      refine mj_iload_n hJ dX9_treaty_18 rfl ?_
      refine mj_iconst hJ dX9_treaty_19 (by decide) ?_
      refine mj_iconst hJ dX9_treaty_20 (by decide) ?_
      refine mk_Sp3 hJ dX9_treaty_21 cw_X9_104 rfl (Nat.le_of_ble_eq_true rfl) (by first | decide | omega) (c_X9_in x 0 3) ?_
      by_cases h3 : 0 ≤ x ∧ x ≤ 3
      · rw [if_pos h3]
        have hP := And.intro h (And.intro h2 h3)
        refine mj_if_ne (tgt := 30) hJ dX9_treaty_24 (by decide) (fun _ => ?_) (fun hno => absurd hno (by decide))
        refine mj_aload_n hJ dX9_treaty_30 rfl ?_
        refine mj_iload_n hJ dX9_treaty_31 rfl ?_
        refine mj_iconst hJ dX9_treaty_32 (by decide) ?_
        refine mk_Vi2 hJ dX9_treaty_33 cw_X9_272 rfl rfl rfl rfl (Nat.le_of_ble_eq_true rfl) (by first | decide | omega) (c_X9_goBy w (-1) T hw hT h.1 h.2 (by decide) (by decide)) (fun z I1 b1 hq9 => ?_)
        obtain ⟨rfl, rfl, hf, hv⟩ := hq9
        have hv := hv v h2.1 h2.2
        have hS : Same I I1 := Same.of (fun c hc => hf c (by omega))
        refine ms_istore (ls' := [_, _, _, _, _]) hJ dX9_treaty_36 (by decide) rfl rfl ?_
        refine mj_iload_n hJ dX9_treaty_38 rfl ?_
        refine mj_if_ne (tgt := 51) hJ dX9_treaty_39 (by decide) (fun k0 => ?_) (fun k0 => ?_)
        · refine mj_iload_n hJ dX9_treaty_51 rfl ?_
          refine mj_iconst hJ dX9_treaty_52 (by decide) ?_
          refine mj_icmp_ne (tgt := 65) hJ dX9_treaty_53 (by decide) (fun k1 => ?_) (fun k1 => ?_)
          · refine mj_iload_n hJ dX9_treaty_65 rfl ?_
            refine mj_iconst hJ dX9_treaty_66 (by decide) ?_
            refine mj_icmp_ne (tgt := 79) hJ dX9_treaty_67 (by decide) (fun k2 => ?_) (fun k2 => ?_)
            · refine mj_aload_n hJ dX9_treaty_79 rfl ?_
              refine mk_getR hJ dX9_treaty_80 fw_X9_77 rfl (by decide) rfl rfl ?_
              refine mj_iload_n hJ dX9_treaty_83 rfl ?_
              refine mk_iald hJ dX9_treaty_84 rfl (by omega) (by omega) ?_
              exact hR _ _ _ _ _ dX9_treaty_85 nar_i ⟨by unfold F_treaty; rw [if_pos hP, if_neg k0, if_neg k1, if_neg k2]; exact hv.2.2.2, rfl, hS⟩
            · refine mj_aload_n hJ dX9_treaty_70 rfl ?_
              refine mk_getR hJ dX9_treaty_71 fw_X9_74 rfl (by decide) rfl rfl ?_
              refine mj_iload_n hJ dX9_treaty_74 rfl ?_
              refine mk_iald hJ dX9_treaty_75 rfl (by omega) (by omega) ?_
              refine mj_goto (tgt := 85) hJ dX9_treaty_76 (by decide) ?_
              exact hR _ _ _ _ _ dX9_treaty_85 nar_i ⟨by unfold F_treaty; rw [if_pos hP, if_neg k0, if_neg k1, if_pos (by omega)]; exact hv.2.2.1, rfl, hS⟩
          · refine mj_aload_n hJ dX9_treaty_56 rfl ?_
            refine mk_getR hJ dX9_treaty_57 fw_X9_71 rfl (by decide) rfl rfl ?_
            refine mj_iload_n hJ dX9_treaty_60 rfl ?_
            refine mk_iald hJ dX9_treaty_61 rfl (by omega) (by omega) ?_
            refine mj_goto (tgt := 85) hJ dX9_treaty_62 (by decide) ?_
            exact hR _ _ _ _ _ dX9_treaty_85 nar_i ⟨by unfold F_treaty; rw [if_pos hP, if_neg k0, if_pos (by omega)]; exact hv.2.1, rfl, hS⟩
        · refine mj_aload_n hJ dX9_treaty_42 rfl ?_
          refine mk_getR hJ dX9_treaty_43 fw_X9_68 rfl (by decide) rfl rfl ?_
          refine mj_iload_n hJ dX9_treaty_46 rfl ?_
          refine mk_iald hJ dX9_treaty_47 rfl (by omega) (by omega) ?_
          refine mj_goto (tgt := 85) hJ dX9_treaty_48 (by decide) ?_
          exact hR _ _ _ _ _ dX9_treaty_85 nar_i ⟨by unfold F_treaty; rw [if_pos hP, if_pos (by omega)]; exact hv.1, rfl, hS⟩
      · rw [if_neg h3]
        refine mj_if_ne (tgt := 30) hJ dX9_treaty_24 (by decide) (fun hyes => absurd (by decide) hyes) (fun _ => ?_)
        exact no (fun q => h3 q.2.2)
    · rw [if_neg h2]
      refine mj_if_eq (tgt := 27) hJ dX9_treaty_15 (by decide) (fun _ => ?_) (fun hno => absurd (by decide) hno)
      exact no (fun q => h2 q.2.1)
  · rw [if_neg h]
    refine mj_if_eq (tgt := 27) hJ dX9_treaty_7 (by decide) (fun _ => ?_) (fun hno => absurd (by decide) hno)
    exact no (fun q => h q.1)
theorem c_X9_bestYears (hw : WN (I 112)) : MtI G yX9_bestYears cX9_bestYears 3 (some .int) 5 [vr 111] I b (fun z I' b' => z = bsY (I 112) (I 112 1).toNat ∧ b' = b ∧ ∀ c, (c < 114 ∨ 117 ≤ c) → I' c = I c) := by
  refine mt_enterI (own := RX9) (ls0 := [vr 111, vu, vu]) rfl (by decide +kernel) (Nat.le_of_ble_eq_true rfl) rfl rfl (fun J hJ hR => ?_)
  have hy := hw.ny
  have loop : ∀ (m k : Nat) (I1 : Ints), (k + m : Int) = I 112 1 → (∀ c, (c < 114 ∨ 117 ≤ c) → I1 c = I c) → J 4 [vr 111, vi (bsY (I 112) k), vi k] [] (mk I1 b) := by
    intro m
    induction m with
    | zero =>
      intro k I1 hk hf
      refine mj_iload_n hJ dX9_bestYears_4 rfl ?_
      refine mj_aload_n hJ dX9_bestYears_5 rfl ?_
      refine mk_getR hJ dX9_bestYears_6 fw_X9_9 rfl (by decide) rfl rfl ?_
      refine mj_iconst hJ dX9_bestYears_9 (by decide) ?_
      refine mk_iald hJ dX9_bestYears_10 rfl (by omega) (by omega) ?_
      rw [hf 112 (by omega)]
      refine mj_icmp_ge (tgt := 36) hJ dX9_bestYears_11 (by decide) (fun _ => ?_) (fun hno => absurd (by omega) hno)
      refine mj_iload_n hJ dX9_bestYears_36 rfl ?_
      exact hR _ _ _ _ _ dX9_bestYears_37 nar_i ⟨by rw [show k = (I 112 1).toNat by omega], rfl, hf⟩
    | succ m ih =>
      intro k I1 hk hf
      have e112 := hf 112 (by omega)
      have wt := hw.wet (y := k) (by omega) (by omega)
      have bb := bsY_bd hw k (by omega)
      have bv := bestv_bd hw wt.1 wt.2
      refine mj_iload_n hJ dX9_bestYears_4 rfl ?_
      refine mj_aload_n hJ dX9_bestYears_5 rfl ?_
      refine mk_getR hJ dX9_bestYears_6 fw_X9_9 rfl (by decide) rfl rfl ?_
      refine mj_iconst hJ dX9_bestYears_9 (by decide) ?_
      refine mk_iald hJ dX9_bestYears_10 rfl (by omega) (by omega) ?_
      rw [e112]
      refine mj_icmp_ge (tgt := 36) hJ dX9_bestYears_11 (by decide) (fun hyes => absurd hyes (by omega)) (fun _ => ?_)
      refine mj_iload_n hJ dX9_bestYears_14 rfl ?_
      refine mj_aload_n hJ dX9_bestYears_15 rfl ?_
      refine mj_aload_n hJ dX9_bestYears_16 rfl ?_
      refine mk_getR hJ dX9_bestYears_17 fw_X9_9 rfl (by decide) rfl rfl ?_
      refine mj_bipush hJ dX9_bestYears_20 (by decide) ?_
      refine mj_iload_n hJ dX9_bestYears_22 rfl ?_
      first | refine ms_iadd hJ dX9_bestYears_23 (by omega) ?_ | refine mj_iadd hJ dX9_bestYears_23 ?_
      refine mk_iald hJ dX9_bestYears_24 rfl (by omega) (by omega) ?_
      rw [e112]
      have hB := c_X9_bestOf (G := G) (I := I1) (b := b) (I 112 (118 + (k : Int))) (by rw [e112]; exact hw) wt.1 wt.2
      rw [e112] at hB
      refine mk_Vi1 hJ dX9_bestYears_25 cw_X9_136 rfl rfl rfl rfl (Nat.le_of_ble_eq_true rfl) (by first | decide | omega) (hB) (fun z I2 b2 hq9 => ?_)
      obtain ⟨rfl, rfl, hf2, -, -⟩ := hq9
      first | refine ms_iadd hJ dX9_bestYears_28 (by omega) ?_ | refine mj_iadd hJ dX9_bestYears_28 ?_
      refine ms_istore_n (ls' := [_, _, _]) hJ dX9_bestYears_29 (by decide) rfl rfl ?_
      refine ms_iinc (ls' := [_, _, _]) hJ dX9_bestYears_30 rfl (by decide) rfl (wr_id (by omega)) rfl ?_
      refine mj_goto (tgt := 4) hJ dX9_bestYears_33 (by decide) ?_
      exact ih (k + 1) I2 (by omega) (fun c hc => (hf2 c hc).trans (hf c hc))
  refine mj_iconst hJ dX9_bestYears_0 (by decide) ?_
  refine ms_istore_n (ls' := [_, _, _]) hJ dX9_bestYears_1 (by decide) rfl rfl ?_
  refine mj_iconst hJ dX9_bestYears_2 (by decide) ?_
  refine ms_istore_n (ls' := [_, _, _]) hJ dX9_bestYears_3 (by decide) rfl rfl ?_
  exact loop (I 112 1).toNat 0 I (by omega) (fun _ _ => rfl)
theorem c_X9_goYears (p : Int) (T : List Ln) (hw : WN (I 112)) (hT : TM (I 112) T) (p0 : -1 ≤ p) (p1 : p ≤ 24) : MtI G yX9_goYears cX9_goYears 4 (some .int) 5 [vr 111, vi p] I b (fun z I' b' => z = goY (I 112) T p (I 112 1).toNat ∧ b' = b ∧ ∀ c, (c < 114 ∨ c = 127 ∨ 135 ≤ c) → I' c = I c) := by
  refine mt_enterI (own := RX9) (ls0 := [vr 111, vi p, vu, vu]) rfl (by decide +kernel) (Nat.le_of_ble_eq_true rfl) rfl rfl (fun J hJ hR => ?_)
  have hn := hw.nv
  have hy := hw.ny
  have loop : ∀ (m k : Nat) (I1 : Ints), (k + m : Int) = I 112 1 → (∀ c, (c < 114 ∨ c = 127 ∨ 135 ≤ c) → I1 c = I c) → J 4 [vr 111, vi p, vi (goY (I 112) T p k), vi k] [] (mk I1 b) := by
    intro m
    induction m with
    | zero =>
      intro k I1 hk hf
      refine mj_iload_n hJ dX9_goYears_4 rfl ?_
      refine mj_aload_n hJ dX9_goYears_5 rfl ?_
      refine mk_getR hJ dX9_goYears_6 fw_X9_9 rfl (by decide) rfl rfl ?_
      refine mj_iconst hJ dX9_goYears_9 (by decide) ?_
      refine mk_iald hJ dX9_goYears_10 rfl (by omega) (by omega) ?_
      rw [hf 112 (by omega)]
      refine mj_icmp_ge (tgt := 37) hJ dX9_goYears_11 (by decide) (fun _ => ?_) (fun hno => absurd (by omega) hno)
      refine mj_iload_n hJ dX9_goYears_37 rfl ?_
      exact hR _ _ _ _ _ dX9_goYears_38 nar_i ⟨by rw [show k = (I 112 1).toNat by omega], rfl, hf⟩
    | succ m ih =>
      intro k I1 hk hf
      have e112 := hf 112 (by omega)
      have wt := hw.wet (y := k) (by omega) (by omega)
      have bb := goY_bd hw hT p k (by omega)
      have bv := gS_bd hw wt.1 wt.2 (T := TF (I 112) T (I 112 (118 + (k : Int))) p) (fun v c => TF_nn hT _ p v c) (I 112 0).toNat (by omega)
      refine mj_iload_n hJ dX9_goYears_4 rfl ?_
      refine mj_aload_n hJ dX9_goYears_5 rfl ?_
      refine mk_getR hJ dX9_goYears_6 fw_X9_9 rfl (by decide) rfl rfl ?_
      refine mj_iconst hJ dX9_goYears_9 (by decide) ?_
      refine mk_iald hJ dX9_goYears_10 rfl (by omega) (by omega) ?_
      rw [e112]
      refine mj_icmp_ge (tgt := 37) hJ dX9_goYears_11 (by decide) (fun hyes => absurd hyes (by omega)) (fun _ => ?_)
      refine mj_iload_n hJ dX9_goYears_14 rfl ?_
      refine mj_aload_n hJ dX9_goYears_15 rfl ?_
      refine mj_aload_n hJ dX9_goYears_16 rfl ?_
      refine mk_getR hJ dX9_goYears_17 fw_X9_9 rfl (by decide) rfl rfl ?_
      refine mj_bipush hJ dX9_goYears_20 (by decide) ?_
      refine mj_iload_n hJ dX9_goYears_22 rfl ?_
      first | refine ms_iadd hJ dX9_goYears_23 (by omega) ?_ | refine mj_iadd hJ dX9_goYears_23 ?_
      refine mk_iald hJ dX9_goYears_24 rfl (by omega) (by omega) ?_
      rw [e112]
      refine mj_iload_n hJ dX9_goYears_25 rfl ?_
      have hB := c_X9_goBy (G := G) (I := I1) (b := b) (I 112 (118 + (k : Int))) p T (by rw [e112]; exact hw) (by rw [e112]; exact hT) wt.1 wt.2 p0 p1
      rw [e112] at hB
      refine mk_Vi2 hJ dX9_goYears_26 cw_X9_272 rfl rfl rfl rfl (Nat.le_of_ble_eq_true rfl) (by first | decide | omega) (hB) (fun z I2 b2 hq9 => ?_)
      obtain ⟨rfl, rfl, hf2, -⟩ := hq9
      first | refine ms_iadd hJ dX9_goYears_29 (by omega) ?_ | refine mj_iadd hJ dX9_goYears_29 ?_
      refine ms_istore_n (ls' := [_, _, _, _]) hJ dX9_goYears_30 (by decide) rfl rfl ?_
      refine ms_iinc (ls' := [_, _, _, _]) hJ dX9_goYears_31 rfl (by decide) rfl (wr_id (by omega)) rfl ?_
      refine mj_goto (tgt := 4) hJ dX9_goYears_34 (by decide) ?_
      exact ih (k + 1) I2 (by omega) (fun c hc => (hf2 c (by omega)).trans (hf c hc))
  refine mj_iconst hJ dX9_goYears_0 (by decide) ?_
  refine ms_istore_n (ls' := [_, _, _, _]) hJ dX9_goYears_1 (by decide) rfl rfl ?_
  refine mj_iconst hJ dX9_goYears_2 (by decide) ?_
  refine ms_istore_n (ls' := [_, _, _, _]) hJ dX9_goYears_3 (by decide) rfl rfl ?_
  exact loop (I 112 1).toNat 0 I (by omega) (fun _ _ => rfl)
theorem c_X9_lost (T : List Ln) (hw : WN (I 112)) (hT : TM (I 112) T) : MtI G yX9_lost cX9_lost 1 (some .int) 6 [vr 111] I b (Qs I b (F_lost I T)) := by
  refine mt_enterI (own := RX9) (ls0 := [vr 111]) rfl (by decide +kernel) (Nat.le_of_ble_eq_true rfl) rfl rfl (fun J hJ hR => ?_)
  have hy := hw.ny
  refine mj_aload_n hJ dX9_lost_0 rfl ?_
  refine mk_Vi0 hJ dX9_lost_1 cw_X9_275 rfl rfl rfl rfl (Nat.le_of_ble_eq_true rfl) (by first | decide | omega) (c_X9_bestYears hw) (fun z I1 b1 hq9 => ?_)
  obtain ⟨rfl, rfl, hf⟩ := hq9
  have e112 := hf 112 (by omega)
  have hG := c_X9_goYears (G := G) (I := I1) (b := b1) (-1) T (by rw [e112]; exact hw) (by rw [e112]; exact hT) (by decide) (by decide)
  rw [e112] at hG
  have a := bsY_bd hw (I 112 1).toNat (by omega)
  have c := goY_bd hw hT (-1) (I 112 1).toNat (by omega)
  refine mj_aload_n hJ dX9_lost_4 rfl ?_
  refine mj_iconst hJ dX9_lost_5 (by decide) ?_
  refine mk_Vi1 hJ dX9_lost_6 cw_X9_278 rfl rfl rfl rfl (Nat.le_of_ble_eq_true rfl) (by first | decide | omega) (hG) (fun z I2 b2 hq9 => ?_)
  obtain ⟨rfl, rfl, hf2⟩ := hq9
  first | refine ms_isub hJ dX9_lost_9 (by omega) ?_ | refine mj_isub hJ dX9_lost_9 ?_
  exact hR _ _ _ _ _ dX9_lost_10 nar_i ⟨rfl, rfl, Same.of (fun c hc => (hf2 c (by omega)).trans (hf c (by omega)))⟩
theorem c_X9_plain (x : Int) (T : List Ln) (hw : WN (I 112)) (hT : TM (I 112) T) : MtI G yX9_plain cX9_plain 7 (some .int) 6 [vr 111, vi x] I b (Qs I b (F_plain I T x)) := by
  refine mt_enterI (own := RX9) (ls0 := [vr 111, vi x, vu, vu, vu, vu, vu]) rfl (by decide +kernel) (Nat.le_of_ble_eq_true rfl) rfl rfl (fun J hJ hR => ?_)
  have hy := hw.ny
  refine mj_iload_n hJ dX9_plain_0 rfl ?_
  refine mj_iconst hJ dX9_plain_1 (by decide) ?_
  refine mj_iconst hJ dX9_plain_2 (by decide) ?_
  refine mk_Sp3 hJ dX9_plain_3 cw_X9_104 rfl (Nat.le_of_ble_eq_true rfl) (by first | decide | omega) (c_X9_in x 0 1) ?_
  by_cases h : 0 ≤ x ∧ x ≤ 1
  · rw [if_pos h]
    have a := bsY_bd hw (I 112 1).toNat (by omega)
    refine mj_if_ne (tgt := 11) hJ dX9_plain_6 (by decide) (fun _ => ?_) (fun hno => absurd hno (by decide))
    refine mj_aload_n hJ dX9_plain_11 rfl ?_
    refine mk_Vi0 hJ dX9_plain_12 cw_X9_275 rfl rfl rfl rfl (Nat.le_of_ble_eq_true rfl) (by first | decide | omega) (c_X9_bestYears hw) (fun z I1 b1 hq9 => ?_)
    obtain ⟨rfl, rfl, hf⟩ := hq9
    have e112 := hf 112 (by omega)
    have go : ∀ (p : Int) (I2 : Ints), -1 ≤ p → p ≤ 24 → I2 112 = I 112 → MtI G yX9_goYears cX9_goYears 4 (some .int) 5 [vr 111, vi p] I2 b1 (fun z I' b' => z = goY (I 112) T p (I 112 1).toNat ∧ b' = b1 ∧ ∀ c, (c < 114 ∨ c = 127 ∨ 135 ≤ c) → I' c = I2 c) := fun p I2 p0 p1 e => by
      have hG := c_X9_goYears (G := G) (I := I2) (b := b1) p T (by rw [e]; exact hw) (by rw [e]; exact hT) p0 p1
      rw [e] at hG
      exact hG
    have plb : ∀ k : Nat, -130000 ≤ (pls (I 112) T k).1 ∧ (pls (I 112) T k).1 ≤ 130000 := by
      intro k
      induction k with
      | zero =>
        have c := goY_bd hw hT 0 (I 112 1).toNat (by omega)
        show -130000 ≤ bsY (I 112) (I 112 1).toNat - goY (I 112) T 0 (I 112 1).toNat ∧ bsY (I 112) (I 112 1).toNat - goY (I 112) T 0 (I 112 1).toNat ≤ 130000
        omega
      | succ k ih =>
        have c := goY_bd hw hT (k + 1) (I 112 1).toNat (by omega)
        show -130000 ≤ (if bsY (I 112) (I 112 1).toNat - goY (I 112) T (k + 1) (I 112 1).toNat < (pls (I 112) T k).1 then (bsY (I 112) (I 112 1).toNat - goY (I 112) T (k + 1) (I 112 1).toNat, (k : Int) + 1) else pls (I 112) T k).1 ∧ (if bsY (I 112) (I 112 1).toNat - goY (I 112) T (k + 1) (I 112 1).toNat < (pls (I 112) T k).1 then (bsY (I 112) (I 112 1).toNat - goY (I 112) T (k + 1) (I 112 1).toNat, (k : Int) + 1) else pls (I 112) T k).1 ≤ 130000
        split
        · simp only []
          omega
        · exact ih
    have loop : ∀ (m k : Nat) (I2 : Ints), k + m = 24 → (∀ c, (c < 114 ∨ c = 127 ∨ 135 ≤ c) → I2 c = I c) → J 30 [vr 111, vi x, vi (bsY (I 112) (I 112 1).toNat), vi (pls (I 112) T k).2, vi (pls (I 112) T k).1, vi (k + 1), vu] [] (mk I2 b1) := by
      intro m
      induction m with
      | zero =>
        intro k I2 hk hf2
        have ek : k = 24 := by omega
        subst ek
        refine mj_iload hJ dX9_plain_30 rfl ?_
        refine mj_bipush hJ dX9_plain_32 (by decide) ?_
        refine mj_icmp_gt (tgt := 83) hJ dX9_plain_34 (by decide) (fun _ => ?_) (fun hno => absurd (by omega) hno)
        refine mj_iload_n hJ dX9_plain_83 rfl ?_
        refine mj_if_ne (tgt := 92) hJ dX9_plain_84 (by decide) (fun hx => ?_) (fun hx => ?_)
        · refine mj_iload_n hJ dX9_plain_92 rfl ?_
          exact hR _ _ _ _ _ dX9_plain_93 nar_i ⟨by unfold F_plain; rw [if_pos h, if_neg hx], rfl, Same.of (fun c hc => hf2 c (by omega))⟩
        · refine mj_iload hJ dX9_plain_87 rfl ?_
          refine mj_goto (tgt := 93) hJ dX9_plain_89 (by decide) ?_
          exact hR _ _ _ _ _ dX9_plain_93 nar_i ⟨by unfold F_plain; rw [if_pos h, if_pos (by omega)], rfl, Same.of (fun c hc => hf2 c (by omega))⟩
      | succ m ih =>
        intro k I2 hk hf2
        have c := goY_bd hw hT (k + 1) (I 112 1).toNat (by omega)
        have pb := plb k
        have st : pls (I 112) T (k + 1) = if bsY (I 112) (I 112 1).toNat - goY (I 112) T (k + 1) (I 112 1).toNat < (pls (I 112) T k).1 then (bsY (I 112) (I 112 1).toNat - goY (I 112) T (k + 1) (I 112 1).toNat, (k : Int) + 1) else pls (I 112) T k := rfl
        refine mj_iload hJ dX9_plain_30 rfl ?_
        refine mj_bipush hJ dX9_plain_32 (by decide) ?_
        refine mj_icmp_gt (tgt := 83) hJ dX9_plain_34 (by decide) (fun hyes => absurd hyes (by omega)) (fun _ => ?_)
        refine mj_iload_n hJ dX9_plain_37 rfl ?_
        refine mj_aload_n hJ dX9_plain_38 rfl ?_
        refine mj_iload hJ dX9_plain_39 rfl ?_
        refine mk_Vi1 hJ dX9_plain_41 cw_X9_278 rfl rfl rfl rfl (Nat.le_of_ble_eq_true rfl) (by first | decide | omega) (go (k + 1) I2 (by omega) (by omega) (hf2 112 (by omega))) (fun z I3 b3 hq9 => ?_)
        obtain ⟨rfl, rfl, hf3⟩ := hq9
        first | refine ms_isub hJ dX9_plain_44 (by omega) ?_ | refine mj_isub hJ dX9_plain_44 ?_
        refine ms_istore (ls' := [_, _, _, _, _, _, _]) hJ dX9_plain_45 (by decide) rfl rfl ?_
        refine mj_iload hJ dX9_plain_47 rfl ?_
        refine mj_iload hJ dX9_plain_49 rfl ?_
        have hf4 : ∀ c, (c < 114 ∨ c = 127 ∨ 135 ≤ c) → I3 c = I c := fun c hc => (hf3 c hc).trans (hf2 c hc)
        have := ih (k + 1) I3 (by omega) hf4
        refine mj_icmp_ge (tgt := 59) hJ dX9_plain_51 (by decide) (fun hl => ?_) (fun hl => ?_)
        · rw [st, if_neg (by omega)] at this
          refine mj_iload_n hJ dX9_plain_59 rfl ?_
          refine ms_istore_n (ls' := [_, _, _, _, _, _, _]) hJ dX9_plain_60 (by decide) rfl rfl ?_
          refine mj_iload hJ dX9_plain_61 rfl ?_
          refine mj_iload hJ dX9_plain_63 rfl ?_
          refine mj_icmp_ge (tgt := 73) hJ dX9_plain_65 (by decide) (fun _ => ?_) (fun hno => absurd (by omega) hno)
          refine mj_iload hJ dX9_plain_73 rfl ?_
          refine ms_istore (ls' := [_, _, _, _, _, _, _]) hJ dX9_plain_75 (by decide) rfl rfl ?_
          refine ms_iinc (ls' := [_, _, _, _, _, _, _]) hJ dX9_plain_77 rfl (by decide) rfl (wr_id (by omega)) rfl ?_
          refine mj_goto (tgt := 30) hJ dX9_plain_80 (by decide) ?_
          refine mj_drop (ls' := [_, _, _, _, _, _, vu]) hJ ⟨Or.inl rfl, Or.inl rfl, Or.inl rfl, Or.inl rfl, Or.inl rfl, Or.inl rfl, Or.inr rfl, trivial⟩ ?_
          exact this
        · rw [st, if_pos (by omega)] at this
          refine mj_iload hJ dX9_plain_54 rfl ?_
          refine mj_goto (tgt := 60) hJ dX9_plain_56 (by decide) ?_
          refine ms_istore_n (ls' := [_, _, _, _, _, _, _]) hJ dX9_plain_60 (by decide) rfl rfl ?_
          refine mj_iload hJ dX9_plain_61 rfl ?_
          refine mj_iload hJ dX9_plain_63 rfl ?_
          refine mj_icmp_ge (tgt := 73) hJ dX9_plain_65 (by decide) (fun hyes => absurd hyes (by omega)) (fun _ => ?_)
          refine mj_iload hJ dX9_plain_68 rfl ?_
          refine mj_goto (tgt := 75) hJ dX9_plain_70 (by decide) ?_
          refine ms_istore (ls' := [_, _, _, _, _, _, _]) hJ dX9_plain_75 (by decide) rfl rfl ?_
          refine ms_iinc (ls' := [_, _, _, _, _, _, _]) hJ dX9_plain_77 rfl (by decide) rfl (wr_id (by omega)) rfl ?_
          refine mj_goto (tgt := 30) hJ dX9_plain_80 (by decide) ?_
          refine mj_drop (ls' := [_, _, _, _, _, _, vu]) hJ ⟨Or.inl rfl, Or.inl rfl, Or.inl rfl, Or.inl rfl, Or.inl rfl, Or.inl rfl, Or.inr rfl, trivial⟩ ?_
          exact this
    refine ms_istore_n (ls' := [_, _, _, _, _, _, _]) hJ dX9_plain_15 (by decide) rfl rfl ?_
    refine mj_iconst hJ dX9_plain_16 (by decide) ?_
    refine ms_istore_n (ls' := [_, _, _, _, _, _, _]) hJ dX9_plain_17 (by decide) rfl rfl ?_
    refine mj_iload_n hJ dX9_plain_18 rfl ?_
    refine mj_aload_n hJ dX9_plain_19 rfl ?_
    refine mj_iconst hJ dX9_plain_20 (by decide) ?_
    refine mk_Vi1 hJ dX9_plain_21 cw_X9_278 rfl rfl rfl rfl (Nat.le_of_ble_eq_true rfl) (by first | decide | omega) (go 0 I1 (by omega) (by omega) e112) (fun z I2 b2 hq9 => ?_)
    obtain ⟨rfl, rfl, hf2⟩ := hq9
    have c := goY_bd hw hT 0 (I 112 1).toNat (by omega)
    first | refine ms_isub hJ dX9_plain_24 (by omega) ?_ | refine mj_isub hJ dX9_plain_24 ?_
    refine ms_istore (ls' := [_, _, _, _, _, _, _]) hJ dX9_plain_25 (by decide) rfl rfl ?_
    refine mj_iconst hJ dX9_plain_27 (by decide) ?_
    refine ms_istore (ls' := [_, _, _, _, _, _, _]) hJ dX9_plain_28 (by decide) rfl rfl ?_
    exact loop 24 0 I2 (by omega) (fun c hc => (hf2 c hc).trans (hf c (by omega)))
  · rw [if_neg h]
    refine mj_if_ne (tgt := 11) hJ dX9_plain_6 (by decide) (fun hyes => absurd (by decide) hyes) (fun _ => ?_)
    refine mj_iconst hJ dX9_plain_9 (by decide) ?_
    exact hR _ _ _ _ _ dX9_plain_10 nar_i ⟨by unfold F_plain; rw [if_neg h], rfl, Same.rfl'⟩
theorem c_X9_breaks (w : Int) (T : List Ln) (hw : WN (I 112)) (hT : TM (I 112) T) : MtI G yX9_breaks cX9_breaks 5 (some .int) 5 [vr 111, vi w] I b (Qs I b (F_breaks I T w)) := by
  refine mt_enterI (own := RX9) (ls0 := [vr 111, vi w, vu, vu, vu]) rfl (by decide +kernel) (Nat.le_of_ble_eq_true rfl) rfl rfl (fun J hJ hR => ?_)
  have hn := hw.nv
  refine mj_iload_n hJ dX9_breaks_0 rfl ?_
  refine mj_iconst hJ dX9_breaks_1 (by decide) ?_
  refine mj_bipush hJ dX9_breaks_2 (by decide) ?_
  refine mk_Sp3 hJ dX9_breaks_4 cw_X9_104 rfl (Nat.le_of_ble_eq_true rfl) (by first | decide | omega) (c_X9_in w 0 20) ?_
  by_cases h : 0 ≤ w ∧ w ≤ 20
  · rw [if_pos h]
    refine mj_if_ne (tgt := 12) hJ dX9_breaks_7 (by decide) (fun _ => ?_) (fun hno => absurd hno (by decide))
    refine mj_aload_n hJ dX9_breaks_12 rfl ?_
    refine mj_iload_n hJ dX9_breaks_13 rfl ?_
    refine mj_iconst hJ dX9_breaks_14 (by decide) ?_
    refine mk_Vi2 hJ dX9_breaks_15 cw_X9_272 rfl rfl rfl rfl (Nat.le_of_ble_eq_true rfl) (by first | decide | omega) (c_X9_goBy w (-1) T hw hT h.1 h.2 (by decide) (by decide)) (fun z I1 b1 hq9 => ?_)
    obtain ⟨rfl, rfl, hf, hv⟩ := hq9
    have hnn : ∀ v c, 0 ≤ TF (I 112) T w (-1) v c := fun v c => TF_nn hT w (-1) v c
    have hS : Same I I1 := Same.of (fun c hc => hf c (by omega))
    have e112 := hf 112 (by omega)
    have eF : F_breaks I T w = brs (I 112) w (TF (I 112) T w (-1)) (I 112 0).toNat 0 := by unfold F_breaks; rw [if_pos h]
    generalize hg : gS (I 112) w (TF (I 112) T w (-1)) (I 112 0).toNat = g0
    generalize TF (I 112) T w (-1) = F at hv hnn eF
    have loop : ∀ (m : Nat) (v x : Int), 0 ≤ v → v + m = I 112 0 → brs (I 112) w F m v = F_breaks I T w → J 21 [vr 111, vi w, vi g0, vi v, vu] [] (mk I1 b1) := by
      intro m
      induction m with
      | zero =>
        intro v x v0 vm he
        refine mj_iload_n hJ dX9_breaks_21 rfl ?_
        refine mj_aload_n hJ dX9_breaks_22 rfl ?_
        refine mk_getR hJ dX9_breaks_23 fw_X9_9 rfl (by decide) rfl rfl ?_
        refine mj_iconst hJ dX9_breaks_26 (by decide) ?_
        refine mk_iald hJ dX9_breaks_27 rfl (by omega) (by omega) ?_
        rw [e112]
        refine mj_icmp_ge (tgt := 83) hJ dX9_breaks_28 (by decide) (fun _ => ?_) (fun hno => absurd (by omega) hno)
        refine mj_bipush hJ dX9_breaks_83 (by decide) ?_
        exact hR _ _ _ _ _ dX9_breaks_85 nar_i ⟨he, rfl, hS⟩
      | succ m ih =>
        intro v x v0 vm he
        have he2 : (if gM (I 112) w F v < mde (I 112) v (cu (I 112) v (gC (I 112) w F v)) (gC (I 112) w F v - cu (I 112) v (gC (I 112) w F v)) then v else brs (I 112) w F m (v + 1)) = F_breaks I T w := he
        have hvv := hv v v0 (by omega)
        have g := g_bd hw h.1 h.2 hnn v0 (show v < 6 by omega)
        have cb := cu_bd (I 112) (v := v) (t := gC (I 112) w F v) (by omega)
        have fb := fst_bd hw v0 (show v < 6 by omega) (cu (I 112) v (gC (I 112) w F v)).toNat (by omega)
        have hb := hrm_bd hw v0 (show v < 6 by omega) (p := gC (I 112) w F v - cu (I 112) v (gC (I 112) w F v)) (by omega) (by omega)
        have em : mde (I 112) v (cu (I 112) v (gC (I 112) w F v)) (gC (I 112) w F v - cu (I 112) v (gC (I 112) w F v)) = fst (I 112) v (cu (I 112) v (gC (I 112) w F v)).toNat - hrm (I 112) v (gC (I 112) w F v - cu (I 112) v (gC (I 112) w F v)) := rfl
        have hw2 : WN (I1 112) := by rw [e112]; exact hw
        refine mj_iload_n hJ dX9_breaks_21 rfl ?_
        refine mj_aload_n hJ dX9_breaks_22 rfl ?_
        refine mk_getR hJ dX9_breaks_23 fw_X9_9 rfl (by decide) rfl rfl ?_
        refine mj_iconst hJ dX9_breaks_26 (by decide) ?_
        refine mk_iald hJ dX9_breaks_27 rfl (by omega) (by omega) ?_
        rw [e112]
        refine mj_icmp_ge (tgt := 83) hJ dX9_breaks_28 (by decide) (fun hyes => absurd hyes (by omega)) (fun _ => ?_)
        refine mj_aload_n hJ dX9_breaks_31 rfl ?_
        refine mj_iload_n hJ dX9_breaks_32 rfl ?_
        refine mj_aload_n hJ dX9_breaks_33 rfl ?_
        refine mk_getR hJ dX9_breaks_34 fw_X9_68 rfl (by decide) rfl rfl ?_
        refine mj_iload_n hJ dX9_breaks_37 rfl ?_
        refine mk_iald hJ dX9_breaks_38 rfl (by omega) (by omega) ?_
        rw [hvv.1]
        refine mk_Vp2 hJ dX9_breaks_39 cw_X9_151 rfl rfl rfl rfl (Nat.le_of_ble_eq_true rfl) (by first | decide | omega) (c_X9_canUse v _ v0 (by omega)) ?_
        rw [e112]
        refine ms_istore (ls' := [_, _, _, _, _]) hJ dX9_breaks_42 (by decide) rfl rfl ?_
        refine mj_aload_n hJ dX9_breaks_44 rfl ?_
        refine mj_iload_n hJ dX9_breaks_45 rfl ?_
        refine mj_iload hJ dX9_breaks_46 rfl ?_
        refine mk_Vp2 hJ dX9_breaks_48 cw_X9_123 rfl rfl rfl rfl (Nat.le_of_ble_eq_true rfl) (by first | decide | omega) (c_X9_firstI v _ v0 (by omega) cb.1 cb.2.1 hw2) ?_
        rw [e112]
        refine mj_aload_n hJ dX9_breaks_51 rfl ?_
        refine mj_iload_n hJ dX9_breaks_52 rfl ?_
        refine mj_aload_n hJ dX9_breaks_53 rfl ?_
        refine mk_getR hJ dX9_breaks_54 fw_X9_68 rfl (by decide) rfl rfl ?_
        refine mj_iload_n hJ dX9_breaks_57 rfl ?_
        refine mk_iald hJ dX9_breaks_58 rfl (by omega) (by omega) ?_
        rw [hvv.1]
        refine mj_iload hJ dX9_breaks_59 rfl ?_
        first | refine ms_isub hJ dX9_breaks_61 (by omega) ?_ | refine mj_isub hJ dX9_breaks_61 ?_
        refine mk_Vp2 hJ dX9_breaks_62 cw_X9_126 rfl rfl rfl rfl (Nat.le_of_ble_eq_true rfl) (by first | decide | omega) (c_X9_harm v _ v0 (by omega) (by omega) (by omega) hw2) ?_
        rw [e112]
        first | refine ms_isub hJ dX9_breaks_65 (by omega) ?_ | refine mj_isub hJ dX9_breaks_65 ?_
        refine mj_aload_n hJ dX9_breaks_66 rfl ?_
        refine mk_getR hJ dX9_breaks_67 fw_X9_77 rfl (by decide) rfl rfl ?_
        refine mj_iload_n hJ dX9_breaks_70 rfl ?_
        refine mk_iald hJ dX9_breaks_71 rfl (by omega) (by omega) ?_
        rw [hvv.2.2.2]
        refine mj_icmp_le (tgt := 77) hJ dX9_breaks_72 (by decide) (fun hl => ?_) (fun hl => ?_)
        · rw [if_neg (by omega)] at he2
          refine ms_iinc (ls' := [_, _, _, _, _]) hJ dX9_breaks_77 rfl (by decide) rfl (wr_id (by omega)) rfl ?_
          refine mj_goto (tgt := 21) hJ dX9_breaks_80 (by decide) ?_
          refine mj_drop (ls' := [_, _, _, _, vu]) hJ ⟨Or.inl rfl, Or.inl rfl, Or.inl rfl, Or.inl rfl, Or.inr rfl, trivial⟩ ?_
          exact ih (v + 1) x (by omega) (by omega) he2
        · rw [if_pos (by omega)] at he2
          refine mj_iload_n hJ dX9_breaks_75 rfl ?_
          exact hR _ _ _ _ _ dX9_breaks_76 nar_i ⟨he2, rfl, hS⟩
    refine ms_istore_n (ls' := [_, _, _, _, _]) hJ dX9_breaks_18 (by decide) rfl rfl ?_
    refine mj_iconst hJ dX9_breaks_19 (by decide) ?_
    refine ms_istore_n (ls' := [_, _, _, _, _]) hJ dX9_breaks_20 (by decide) rfl rfl ?_
    exact loop (I 112 0).toNat 0 0 (by omega) (by omega) eF.symm
  · rw [if_neg h]
    refine mj_if_ne (tgt := 12) hJ dX9_breaks_7 (by decide) (fun hyes => absurd (by decide) hyes) (fun _ => ?_)
    refine mj_iconst hJ dX9_breaks_10 (by decide) ?_
    exact hR _ _ _ _ _ dX9_breaks_11 nar_i ⟨by unfold F_breaks; rw [if_neg h], rfl, Same.rfl'⟩
end M17
