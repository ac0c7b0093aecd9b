section M8
variable {G : GE} {I : Ints} {b : Bool}
theorem c_X9_share (s v w : Int) (hw : WN (I 112)) : MtI G yX9_share cX9_share 4 (some .int) 7 [vr 111, vi s, vi v, vi w] I b (Qs I b (F_share I s v w)) := by
  refine mt_enterI (own := RX9) (ls0 := [vr 111, vi s, vi v, vi w]) rfl (by decide +kernel) (Nat.le_of_ble_eq_true rfl) rfl rfl (fun J hJ hR => ?_)
  have hn := hw.nv
  have no : ¬((0 ≤ s ∧ s ≤ 3) ∧ (0 ≤ v ∧ v < I 112 0) ∧ (0 ≤ w ∧ w ≤ 1)) → J 26 [vr 111, vi s, vi v, vi w] [] (mk I b) := by
    intro hno
    refine mj_ldc (z := -1000001) hJ dX9_share_26 (by decide) ct_X9_140 ?_
    exact hR _ _ _ _ _ dX9_share_28 nar_i ⟨by unfold F_share; rw [if_neg hno], rfl, Same.rfl'⟩
  refine mj_iload_n hJ dX9_share_0 rfl ?_
  refine mj_iconst hJ dX9_share_1 (by decide) ?_
  refine mj_iconst hJ dX9_share_2 (by decide) ?_
  refine mk_Sp3 hJ dX9_share_3 cw_X9_104 rfl (Nat.le_of_ble_eq_true rfl) (by decide) (c_X9_in s 0 3) ?_
  by_cases h : 0 ≤ s ∧ s ≤ 3
  · rw [if_pos h]
    refine mj_if_eq (tgt := 26) hJ dX9_share_6 (by decide) (fun hyes => absurd hyes (by decide)) (fun _ => ?_)
    refine mj_aload_n hJ dX9_share_9 rfl ?_
    refine mj_iload_n hJ dX9_share_10 rfl ?_
    refine mk_Vp1 hJ dX9_share_11 cw_X9_112 rfl rfl rfl rfl (Nat.le_of_ble_eq_true rfl) (by decide) (c_X9_isVillage v hn.1 hn.2) ?_
    by_cases h2 : 0 ≤ v ∧ v < I 112 0
    · rw [if_pos h2]
      refine mj_if_eq (tgt := 26) hJ dX9_share_14 (by decide) (fun hyes => absurd hyes (by decide)) (fun _ => ?_)
      refine mj_iload_n hJ dX9_share_17 rfl ?_
      refine mj_iconst hJ dX9_share_18 (by decide) ?_
      refine mj_iconst hJ dX9_share_19 (by decide) ?_
      refine mk_Sp3 hJ dX9_share_20 cw_X9_104 rfl (Nat.le_of_ble_eq_true rfl) (by decide) (c_X9_in w 0 1) ?_
      by_cases h3 : 0 ≤ w ∧ w ≤ 1
      · rw [if_pos h3]
        refine mj_if_ne (tgt := 29) hJ dX9_share_23 (by decide) (fun _ => ?_) (fun hno => absurd hno (by decide))
        refine mj_aload_n hJ dX9_share_29 rfl ?_
        refine mj_iload_n hJ dX9_share_30 rfl ?_
        refine mk_Vv1 hJ dX9_share_31 cw_X9_154 rfl rfl rfl rfl (Nat.le_of_ble_eq_true rfl) (by decide) (c_X9_findShares s hw) (fun I1 b1 hq9 => ?_)
        obtain ⟨rfl, hf, hq⟩ := hq9
        have hS : Same I I1 := Same.of (fun c hc => hf c (by omega))
        have hq := hq v h2.1 h2.2
        have bd := shv_bd hw s h2.1 h2.2
        refine mj_iload_n hJ dX9_share_34 rfl ?_
        refine mj_if_ne (tgt := 47) hJ dX9_share_35 (by decide) (fun h4 => ?_) (fun h4 => ?_)
        · refine mj_iload_n hJ dX9_share_47 rfl ?_
          refine mj_if_ne (tgt := 55) hJ dX9_share_48 (by decide) (fun h5 => ?_) (fun h5 => ?_)
          · refine mj_aload_n hJ dX9_share_55 rfl ?_
            refine mk_getR hJ dX9_share_56 fw_X9_34 rfl (by decide) rfl rfl ?_
            refine mj_iload_n hJ dX9_share_59 rfl ?_
            refine mk_iald hJ dX9_share_60 rfl (by omega) (by omega) ?_
            rw [hq.1]
            refine mj_aload_n hJ dX9_share_61 rfl ?_
            refine mk_getR hJ dX9_share_62 fw_X9_31 rfl (by decide) rfl rfl ?_
            refine mj_iload_n hJ dX9_share_65 rfl ?_
            refine mk_iald hJ dX9_share_66 rfl (by omega) (by omega) ?_
            rw [hq.2]
            have mb : -1800 ≤ bM (I 112) v ∧ bM (I 112) v ≤ 1188 := bM_bd hw h2.1 h2.2
            first | refine ms_isub hJ dX9_share_67 (by omega) ?_ | refine mj_isub hJ dX9_share_67 ?_
            exact hR _ _ _ _ _ dX9_share_68 nar_i ⟨by unfold F_share; rw [if_pos ⟨h, h2, h3⟩, if_neg h4, if_neg h5], rfl, hS⟩
          · refine mj_iconst hJ dX9_share_51 (by decide) ?_
            refine mj_goto (tgt := 68) hJ dX9_share_52 (by decide) ?_
            exact hR _ _ _ _ _ dX9_share_68 nar_i ⟨by unfold F_share; rw [if_pos ⟨h, h2, h3⟩, if_neg h4, if_pos (by omega)], rfl, hS⟩
        · refine mj_aload_n hJ dX9_share_38 rfl ?_
          refine mk_getR hJ dX9_share_39 fw_X9_34 rfl (by decide) rfl rfl ?_
          refine mj_iload_n hJ dX9_share_42 rfl ?_
          refine mk_iald hJ dX9_share_43 rfl (by omega) (by omega) ?_
          rw [hq.1]
          refine mj_goto (tgt := 68) hJ dX9_share_44 (by decide) ?_
          exact hR _ _ _ _ _ dX9_share_68 nar_i ⟨by unfold F_share; rw [if_pos ⟨h, h2, h3⟩, if_pos (by omega)], rfl, hS⟩
      · rw [if_neg h3]
        refine mj_if_ne (tgt := 29) hJ dX9_share_23 (by decide) (fun hyes => absurd (by decide) hyes) (fun _ => ?_)
        exact no (fun q => h3 q.2.2)
    · rw [if_neg h2]
      refine mj_if_eq (tgt := 26) hJ dX9_share_14 (by decide) (fun _ => ?_) (fun hno => absurd (by decide) hno)
      exact no (fun q => h2 q.2.1)
  · rw [if_neg h]
    refine mj_if_eq (tgt := 26) hJ dX9_share_6 (by decide) (fun _ => ?_) (fun hno => absurd (by decide) hno)
    exact no (fun q => h q.1)
theorem c_X9_breakOf (hw : WN (I 112)) (hs : ∀ v : Int, 0 ≤ v → v < I 112 0 → -100000 ≤ I 120 v ∧ I 120 v ≤ 100000) : MtI G yX9_breakOf cX9_breakOf 5 (some .int) 5 [vr 111] I b (fun z I' b' => z = brk (I 112) (I 120) ∧ b' = b ∧ (∀ c, (c < 114 ∨ 117 ≤ c) → I' c = I c)) := by
  refine mt_enterI (own := RX9) (ls0 := [vr 111, vu, vu, vu, vu]) rfl (by decide +kernel) (Nat.le_of_ble_eq_true rfl) rfl rfl (fun J hJ hR => ?_)
  have hn := hw.nv
  have LV : ∀ (m : Nat) (v : Int) (I1 : Ints), 0 ≤ v → v + m = I 112 0 → (∀ c, (c < 114 ∨ 117 ≤ c) → I1 c = I c) → brkV (I 112) (I 120) m v = brk (I 112) (I 120) → J 71 [vr 111, vi (I 112 0), vi v, vu, vu] [] (mk I1 b) := by
    intro m
    induction m with
    | zero =>
      intro v I1 hv hvm hf he
      refine mj_iload_n hJ dX9_breakOf_71 rfl ?_
      refine mj_iload_n hJ dX9_breakOf_72 rfl ?_
      refine mj_icmp_ge (tgt := 102) hJ dX9_breakOf_73 (by decide) (fun _ => ?_) (fun hno => absurd (by omega) hno)
      refine mj_iconst hJ dX9_breakOf_102 (by decide) ?_
      exact hR _ _ _ _ _ dX9_breakOf_103 nar_i ⟨he, rfl, hf⟩
    | succ m ih =>
      intro v I1 hv hvm hf he
      have e112 := hf 112 (by omega)
      have e120 := hf 120 (by omega)
      refine mj_iload_n hJ dX9_breakOf_71 rfl ?_
      refine mj_iload_n hJ dX9_breakOf_72 rfl ?_
      refine mj_icmp_ge (tgt := 102) hJ dX9_breakOf_73 (by decide) (fun hyes => absurd hyes (by omega)) (fun _ => ?_)
      refine mj_aload_n hJ dX9_breakOf_76 rfl ?_
      refine mk_getR hJ dX9_breakOf_77 fw_X9_34 rfl (by decide) rfl rfl ?_
      refine mj_iload_n hJ dX9_breakOf_80 rfl ?_
      refine mk_iald hJ dX9_breakOf_81 rfl (by omega) (by omega) ?_
      refine mj_aload_n hJ dX9_breakOf_82 rfl ?_
      refine mj_iload_n hJ dX9_breakOf_83 rfl ?_
      refine mk_Vp1 hJ dX9_breakOf_84 cw_X9_148 rfl rfl rfl rfl (Nat.le_of_ble_eq_true rfl) (by decide) (c_X9_mostFor v (by rw [e112]; exact hw) hv (by omega)) ?_
      rw [e112, e120]
      have he2 : brkV (I 112) (I 120) (m + 1) v = if mostv (I 112) v < I 120 v then 200 + v else brkV (I 112) (I 120) m (v + 1) := rfl
      refine mj_icmp_le (tgt := 96) hJ dX9_breakOf_87 (by decide) (fun h => ?_) (fun h => ?_)
      · refine ms_iinc (ls' := [_, _, _, _, _]) hJ dX9_breakOf_96 rfl (by decide) rfl (wr_id (by omega)) rfl ?_
        refine mj_goto (tgt := 71) hJ dX9_breakOf_99 (by decide) ?_
        refine ih (v + 1) I1 (by omega) (by omega) hf ?_
        rw [← he, he2, if_neg (by omega)]
      · refine mj_sipush hJ dX9_breakOf_90 (by decide) ?_
        refine mj_iload_n hJ dX9_breakOf_93 rfl ?_
        first | refine ms_iadd hJ dX9_breakOf_94 (by omega) ?_ | refine mj_iadd hJ dX9_breakOf_94 ?_
        refine hR _ _ _ _ _ dX9_breakOf_95 nar_i ⟨?_, rfl, hf⟩
        rw [← he, he2, if_pos (by omega)]
  have LB : ∀ (a : Int), 0 ≤ a → a < I 112 0 → ∀ (m : Nat) (v s : Int) (I1 : Ints), a ≤ v → v + m = I 112 0 → -100000 * v ≤ s ∧ s ≤ 100000 * v → (∀ c, (c < 114 ∨ 117 ≤ c) → I1 c = I c) →
      (∀ z, brkB (I 112) (I 120) a m v s = some z → z = brk (I 112) (I 120)) → (brkB (I 112) (I 120) a m v s = none → ∀ I2 : Ints, (∀ c, (c < 114 ∨ 117 ≤ c) → I2 c = I c) → J 63 [vr 111, vi (I 112 0), vi a, vu, vu] [] (mk I2 b)) → J 19 [vr 111, vi (I 112 0), vi a, vi s, vi v] [] (mk I1 b) := by
    intro a ha0 ha1 m
    induction m with
    | zero =>
      intro v s I1 hv hvm hb hf hz hk
      refine mj_iload hJ dX9_breakOf_19 rfl ?_
      refine mj_iload_n hJ dX9_breakOf_21 rfl ?_
      refine mj_icmp_ge (tgt := 63) hJ dX9_breakOf_22 (by decide) (fun _ => ?_) (fun hno => absurd (by omega) hno)
      refine mj_drop (ls' := [_, _, _, vu, vu]) hJ ⟨Or.inl rfl, Or.inl rfl, Or.inl rfl, Or.inr rfl, Or.inr rfl, trivial⟩ ?_
      exact hk rfl I1 hf
    | succ m ih =>
      intro v s I1 hv hvm hb hf hz hk
      have e112 := hf 112 (by omega)
      have e120 := hf 120 (by omega)
      have hsv := hs v (by omega) (by omega)
      have he2 : brkB (I 112) (I 120) a (m + 1) v s = if s + I 120 v < runv (I 112) a v then some (100 + 10 * a + v) else brkB (I 112) (I 120) a m (v + 1) (s + I 120 v) := rfl
      refine mj_iload hJ dX9_breakOf_19 rfl ?_
      refine mj_iload_n hJ dX9_breakOf_21 rfl ?_
      refine mj_icmp_ge (tgt := 63) hJ dX9_breakOf_22 (by decide) (fun hyes => absurd hyes (by omega)) (fun _ => ?_)
      refine mj_iload_n hJ dX9_breakOf_25 rfl ?_
      refine mj_aload_n hJ dX9_breakOf_26 rfl ?_
      refine mk_getR hJ dX9_breakOf_27 fw_X9_34 rfl (by decide) rfl rfl ?_
      refine mj_iload hJ dX9_breakOf_30 rfl ?_
      refine mk_iald hJ dX9_breakOf_32 rfl (by omega) (by omega) ?_
      rw [e120]
      first | refine ms_iadd hJ dX9_breakOf_33 (by omega) ?_ | refine mj_iadd hJ dX9_breakOf_33 ?_
      refine ms_istore_n (ls' := [_, _, _, _, _]) hJ dX9_breakOf_34 (by decide) rfl rfl ?_
      refine mj_iload_n hJ dX9_breakOf_35 rfl ?_
      refine mj_aload_n hJ dX9_breakOf_36 rfl ?_
      refine mj_iload_n hJ dX9_breakOf_37 rfl ?_
      refine mj_iload hJ dX9_breakOf_38 rfl ?_
      refine mk_Vi2 hJ dX9_breakOf_40 cw_X9_145 rfl rfl rfl rfl (Nat.le_of_ble_eq_true rfl) (by decide) (c_X9_runOf a v (by rw [e112]; exact hw) ha0 hv (by rw [e112]; omega)) (fun z I2 b2 hq9 => ?_)
      obtain ⟨rfl, rfl, hf2⟩ := hq9
      rw [e112]
      have hf3 : ∀ c, (c < 114 ∨ 117 ≤ c) → I2 c = I c := fun c hc => (hf2 c (by omega)).trans (hf c hc)
      refine mj_icmp_ge (tgt := 57) hJ dX9_breakOf_43 (by decide) (fun h => ?_) (fun h => ?_)
      · refine ms_iinc (ls' := [_, _, _, _, _]) hJ dX9_breakOf_57 rfl (by decide) rfl (wr_id (by omega)) rfl ?_
        refine mj_goto (tgt := 19) hJ dX9_breakOf_60 (by decide) ?_
        rw [he2, if_neg (by omega)] at hz hk
        exact ih (v + 1) _ I2 (by omega) (by omega) (by omega) hf3 hz hk
      · refine mj_bipush hJ dX9_breakOf_46 (by decide) ?_
        refine mj_bipush hJ dX9_breakOf_48 (by decide) ?_
        refine mj_iload_n hJ dX9_breakOf_50 rfl ?_
        first | refine ms_imul hJ dX9_breakOf_51 (by omega) ?_ | refine mj_imul hJ dX9_breakOf_51 ?_
        first | refine ms_iadd hJ dX9_breakOf_52 (by omega) ?_ | refine mj_iadd hJ dX9_breakOf_52 ?_
        refine mj_iload hJ dX9_breakOf_53 rfl ?_
        first | refine ms_iadd hJ dX9_breakOf_55 (by omega) ?_ | refine mj_iadd hJ dX9_breakOf_55 ?_
        refine hR _ _ _ _ _ dX9_breakOf_56 nar_i ⟨?_, rfl, hf3⟩
        rw [he2, if_pos (by omega)] at hz
        exact hz _ rfl
  have LA : ∀ (m : Nat) (a : Int) (I1 : Ints), 0 ≤ a → a + m = I 112 0 → (∀ c, (c < 114 ∨ 117 ≤ c) → I1 c = I c) →
      (∀ z, brkA (I 112) (I 120) m a = some z → z = brk (I 112) (I 120)) → (brkA (I 112) (I 120) m a = none → brkV (I 112) (I 120) (I 112 0).toNat 0 = brk (I 112) (I 120)) → J 9 [vr 111, vi (I 112 0), vi a, vu, vu] [] (mk I1 b) := by
    intro m
    induction m with
    | zero =>
      intro a I1 ha ham hf hz hk
      refine mj_iload_n hJ dX9_breakOf_9 rfl ?_
      refine mj_iload_n hJ dX9_breakOf_10 rfl ?_
      refine mj_icmp_ge (tgt := 69) hJ dX9_breakOf_11 (by decide) (fun _ => ?_) (fun hno => absurd (by omega) hno)
      refine mj_iconst hJ dX9_breakOf_69 (by decide) ?_
      refine ms_istore_n (ls' := [_, _, _, _, _]) hJ dX9_breakOf_70 (by decide) rfl rfl ?_
      exact LV (I 112 0).toNat 0 I1 (by omega) (by omega) hf (hk rfl)
    | succ m ih =>
      intro a I1 ha ham hf hz hk
      refine mj_iload_n hJ dX9_breakOf_9 rfl ?_
      refine mj_iload_n hJ dX9_breakOf_10 rfl ?_
      refine mj_icmp_ge (tgt := 69) hJ dX9_breakOf_11 (by decide) (fun hyes => absurd hyes (by omega)) (fun _ => ?_)
      refine mj_iconst hJ dX9_breakOf_14 (by decide) ?_
      refine ms_istore_n (ls' := [_, _, _, _, _]) hJ dX9_breakOf_15 (by decide) rfl rfl ?_
      refine mj_iload_n hJ dX9_breakOf_16 rfl ?_
      refine ms_istore (ls' := [_, _, _, _, _]) hJ dX9_breakOf_17 (by decide) rfl rfl ?_
      refine LB a ha (by omega) (m + 1) a 0 I1 (Int.le_refl _) (by omega) (by omega) hf (fun z hB => ?_) (fun hB I2 hf2 => ?_)
      · refine hz z ?_
        show (match brkB (I 112) (I 120) a (m + 1) a 0 with | some z => some z | none => brkA (I 112) (I 120) m (a + 1)) = some z
        rw [hB]
      · have eA : brkA (I 112) (I 120) (m + 1) a = brkA (I 112) (I 120) m (a + 1) := by
          show (match brkB (I 112) (I 120) a (m + 1) a 0 with | some z => some z | none => brkA (I 112) (I 120) m (a + 1)) = _
          rw [hB]
        rw [eA] at hz hk
        refine ms_iinc (ls' := [_, _, _, _, _]) hJ dX9_breakOf_63 rfl (by decide) rfl (wr_id (by omega)) rfl ?_
        refine mj_goto (tgt := 9) hJ dX9_breakOf_66 (by decide) ?_
        exact ih (a + 1) I2 (by omega) (by omega) hf2 hz hk
  refine mj_aload_n hJ dX9_breakOf_0 rfl ?_
  refine mk_getR hJ dX9_breakOf_1 fw_X9_9 rfl (by decide) rfl rfl ?_
  refine mj_iconst hJ dX9_breakOf_4 (by decide) ?_
  refine mk_iald hJ dX9_breakOf_5 rfl (by omega) (by omega) ?_
  refine ms_istore_n (ls' := [_, _, _, _, _]) hJ dX9_breakOf_6 (by decide) rfl rfl ?_
  refine mj_iconst hJ dX9_breakOf_7 (by decide) ?_
  refine ms_istore_n (ls' := [_, _, _, _, _]) hJ dX9_breakOf_8 (by decide) rfl rfl ?_
  refine LA (I 112 0).toNat 0 I (by omega) (by omega) (fun _ _ => rfl) (fun z hz => ?_) (fun hz => ?_)
  · unfold brk
    rw [hz]
  · unfold brk
    rw [hz]
theorem c_X9_broken (s : Int) (hw : WN (I 112)) : MtI G yX9_broken cX9_broken 2 (some .int) 7 [vr 111, vi s] I b (Qs I b (F_broken I s)) := by
  refine mt_enterI (own := RX9) (ls0 := [vr 111, vi s]) rfl (by decide +kernel) (Nat.le_of_ble_eq_true rfl) rfl rfl (fun J hJ hR => ?_)
  refine mj_iload_n hJ dX9_broken_0 rfl ?_
  refine mj_iconst hJ dX9_broken_1 (by decide) ?_
  refine mj_iconst hJ dX9_broken_2 (by decide) ?_
  refine mk_Sp3 hJ dX9_broken_3 cw_X9_104 rfl (Nat.le_of_ble_eq_true rfl) (by decide) (c_X9_in s 0 3) ?_
  by_cases h : 0 ≤ s ∧ s ≤ 3
  · rw [if_pos h]
    refine mj_if_ne (tgt := 11) hJ dX9_broken_6 (by decide) (fun _ => ?_) (fun hno => absurd hno (by decide))
    refine mj_aload_n hJ dX9_broken_11 rfl ?_
    refine mj_iload_n hJ dX9_broken_12 rfl ?_
    refine mk_Vv1 hJ dX9_broken_13 cw_X9_154 rfl rfl rfl rfl (Nat.le_of_ble_eq_true rfl) (by decide) (c_X9_findShares s hw) (fun I1 b1 hq9 => ?_)
    obtain ⟨rfl, hf, hq⟩ := hq9
    have e112 := hf 112 (by omega)
    refine mj_aload_n hJ dX9_broken_16 rfl ?_
    have hM := c_X9_breakOf (G := G) (I := I1) (b := b1) (by rw [e112]; exact hw) (fun v v0 v1 => by
      rw [e112] at v1
      rw [(hq v v0 v1).1]
      have := shv_bd hw s v0 v1
      omega)
    rw [e112] at hM
    refine mk_Vi0 hJ dX9_broken_17 cw_X9_157 rfl rfl rfl rfl (Nat.le_of_ble_eq_true rfl) (by decide) (hM) (fun z I2 b2 hq9 => ?_)
    obtain ⟨rfl, rfl, hf2⟩ := hq9
    refine hR _ _ _ _ _ dX9_broken_20 nar_i ⟨?_, rfl, Same.of (fun c hc => (hf2 c (by omega)).trans (hf c (by omega)))⟩
    unfold F_broken
    rw [if_pos h]
    exact brk_congr (fun v v0 v1 => (hq v v0 v1).1)
  · rw [if_neg h]
    refine mj_if_ne (tgt := 11) hJ dX9_broken_6 (by decide) (fun hyes => absurd (by decide) hyes) (fun _ => ?_)
    refine mj_iconst hJ dX9_broken_9 (by decide) ?_
    exact hR _ _ _ _ _ dX9_broken_10 nar_i ⟨by unfold F_broken; rw [if_neg h], rfl, Same.rfl'⟩
theorem c_X9_isFour (k : Int) : MtP G yX9_isFour cX9_isFour 1 (some .boolean) 1 [vi k] I b (if 0 ≤ k ∧ k ≤ 3 then 1 else 0) := by
  refine mt_enterI (own := RX9) (ls0 := [vi k]) rfl (by decide +kernel) (Nat.le_of_ble_eq_true rfl) rfl rfl (fun J hJ hR => ?_)
  refine mj_iload_n hJ dX9_isFour_0 rfl ?_
  refine mj_iconst hJ dX9_isFour_1 (by decide) ?_
  refine mj_iconst hJ dX9_isFour_2 (by decide) ?_
  refine mk_Sp3 hJ dX9_isFour_3 cw_X9_104 rfl (Nat.le_of_ble_eq_true rfl) (by decide) (c_X9_in k 0 3) ?_
  by_cases h : 0 ≤ k ∧ k ≤ 3
  · rw [if_pos h]
    exact hR _ _ _ _ _ dX9_isFour_6 (nar_z (by first | exact Or.inl rfl | exact Or.inr rfl | assumption | omega)) ⟨by rw [if_pos h], rfl, rfl⟩
  · rw [if_neg h]
    exact hR _ _ _ _ _ dX9_isFour_6 (nar_z (by first | exact Or.inl rfl | exact Or.inr rfl | assumption | omega)) ⟨by rw [if_neg h], rfl, rfl⟩
theorem c_X9_notOf (s t : Int) (h0 : 0 ≤ s) (h1 : s ≤ 3) : MtP G yX9_notOf cX9_notOf 3 (some .int) 0 [vr 111, vi s, vi t] I b (notv I s t) := by
  refine mt_enterI (own := RX9) (ls0 := [vr 111, vi s, vi t]) rfl (by decide +kernel) (Nat.le_of_ble_eq_true rfl) rfl rfl (fun J hJ hR => ?_)
  refine mj_aload_n hJ dX9_notOf_0 rfl ?_
  refine mk_getR hJ dX9_notOf_1 fw_X9_83 rfl (by decide) rfl rfl ?_
  refine mj_iload_n hJ dX9_notOf_4 rfl ?_
  refine mk_iald hJ dX9_notOf_5 rfl (by omega) (by omega) ?_
  refine mj_if_ge (tgt := 14) hJ dX9_notOf_6 (by decide) (fun h => ?_) (fun h => ?_)
  · refine mj_aload_n hJ dX9_notOf_14 rfl ?_
    refine mk_getR hJ dX9_notOf_15 fw_X9_83 rfl (by decide) rfl rfl ?_
    refine mj_iload_n hJ dX9_notOf_18 rfl ?_
    refine mk_iald hJ dX9_notOf_19 rfl (by omega) (by omega) ?_
    refine mj_iload_n hJ dX9_notOf_20 rfl ?_
    refine mj_icmp_eq (tgt := 29) hJ dX9_notOf_21 (by decide) (fun h2 => ?_) (fun h2 => ?_)
    · refine mj_iconst hJ dX9_notOf_29 (by decide) ?_
      exact hR _ _ _ _ _ dX9_notOf_30 nar_i ⟨by unfold notv; rw [if_neg (by omega), if_pos h2], rfl, rfl⟩
    · refine mj_bipush hJ dX9_notOf_24 (by decide) ?_
      refine mj_goto (tgt := 30) hJ dX9_notOf_26 (by decide) ?_
      exact hR _ _ _ _ _ dX9_notOf_30 nar_i ⟨by unfold notv; rw [if_neg (by omega), if_neg h2], rfl, rfl⟩
  · refine mj_bipush hJ dX9_notOf_9 (by decide) ?_
    refine mj_goto (tgt := 30) hJ dX9_notOf_11 (by decide) ?_
    exact hR _ _ _ _ _ dX9_notOf_30 nar_i ⟨by unfold notv; rw [if_pos (by omega)], rfl, rfl⟩
theorem c_X9_lawful (s : Int) (hw : WN (I 112)) : MtI G yX9_lawful cX9_lawful 6 (some .int) 6 [vr 111, vi s] I b (Qs I b (F_lawful I s)) := by
  refine mt_enterI (own := RX9) (ls0 := [vr 111, vi s, vu, vu, vu, vu]) rfl (by decide +kernel) (Nat.le_of_ble_eq_true rfl) rfl rfl (fun J hJ hR => ?_)
  have hn := hw.nv
  refine mj_iload_n hJ dX9_lawful_0 rfl ?_
  refine mk_Sp1 hJ dX9_lawful_1 cw_X9_287 rfl (Nat.le_of_ble_eq_true rfl) (by decide) (c_X9_isFour s) ?_
  by_cases h : 0 ≤ s ∧ s ≤ 3
  · rw [if_pos h]
    refine mj_if_ne (tgt := 9) hJ dX9_lawful_4 (by decide) (fun _ => ?_) (fun hno => absurd hno (by decide))
    refine mj_aload_n hJ dX9_lawful_9 rfl ?_
    refine mj_iload_n hJ dX9_lawful_10 rfl ?_
    refine mj_iconst hJ dX9_lawful_11 (by decide) ?_
    refine mk_Vp2 hJ dX9_lawful_12 cw_X9_290 rfl rfl rfl rfl (Nat.le_of_ble_eq_true rfl) (by decide) (c_X9_notOf s 2 h.1 h.2) ?_
    refine ms_istore_n (ls' := [_, _, _, _, _, _]) hJ dX9_lawful_15 (by decide) rfl rfl ?_
    refine mj_iload_n hJ dX9_lawful_16 rfl ?_
    refine mj_if_eq (tgt := 22) hJ dX9_lawful_17 (by decide) (fun h2 => ?_) (fun h2 => ?_)
    · refine mj_aload_n hJ dX9_lawful_22 rfl ?_
      refine mk_getR hJ dX9_lawful_23 fw_X9_86 rfl (by decide) rfl rfl ?_
      refine mj_iload_n hJ dX9_lawful_26 rfl ?_
      refine mk_iald hJ dX9_lawful_27 rfl (by omega) (by omega) ?_
      refine mj_aload_n hJ dX9_lawful_28 rfl ?_
      refine mk_getR hJ dX9_lawful_29 fw_X9_9 rfl (by decide) rfl rfl ?_
      refine mj_iconst hJ dX9_lawful_32 (by decide) ?_
      refine mk_iald hJ dX9_lawful_33 rfl (by omega) (by omega) ?_
      have no : (match thk (itm I s) (I 112 0).toNat with | none => -4 | some z => if z = 0 then brk (I 112) (fun v => bM (I 112) v + itm I s v) else 300) = -4 ∨ I 137 s ≠ I 112 0 → F_lawful I s = -4 := fun q => by
        unfold F_lawful
        rw [if_pos h, if_pos h2]
        by_cases c : I 137 s = I 112 0
        · rw [if_pos c]
          exact q.resolve_right (fun q => q c)
        · rw [if_neg c]
      refine mj_icmp_eq (tgt := 40) hJ dX9_lawful_34 (by decide) (fun h3 => ?_) (fun h3 => ?_)
      · have eF : F_lawful I s = (match thk (itm I s) (I 112 0).toNat with | none => -4 | some z => if z = 0 then brk (I 112) (fun v => bM (I 112) v + itm I s v) else 300) := by
          unfold F_lawful
          rw [if_pos h, if_pos h2, if_pos h3]
          rfl
        have L2 : ∀ (m : Nat) (k x : Int) (I1 : Ints), 0 ≤ k → k + m = I 112 0 → thk (itm I s) (I 112 0).toNat = some 0 → (∀ c, (c < 114 ∨ 121 ≤ c) → I1 c = I c) → (∀ v : Int, 0 ≤ v → v < I 112 0 → I1 119 v = bM (I 112) v) → (∀ v : Int, 0 ≤ v → v < k → I1 120 v = bM (I 112) v + itm I s v) → J 121 [vr 111, vi s, vu, vi 0, vi x, vi k] [] (mk I1 b) := by
          intro m
          induction m with
          | zero =>
            intro k x I1 hk hkm ht hf hm hv
            have e112 := hf 112 (by omega)
            refine mj_iload hJ dX9_lawful_121 rfl ?_
            refine mj_aload_n hJ dX9_lawful_123 rfl ?_
            refine mk_getR hJ dX9_lawful_124 fw_X9_9 rfl (by decide) rfl rfl ?_
            refine mj_iconst hJ dX9_lawful_127 (by decide) ?_
            refine mk_iald hJ dX9_lawful_128 rfl (by omega) (by omega) ?_
            rw [e112]
            refine mj_icmp_ge (tgt := 165) hJ dX9_lawful_129 (by decide) (fun _ => ?_) (fun hno => absurd (by omega) hno)
            refine mj_aload_n hJ dX9_lawful_165 rfl ?_
            have hM := c_X9_breakOf (G := G) (I := I1) (b := b) (by rw [e112]; exact hw) (fun v v0 v1 => by
              rw [e112] at v1
              rw [hv v v0 (by omega)]
              have b1 := bM_bd hw v0 v1
              have b2 := (thk_bd _ ht).2.2 v v0 (by omega)
              omega)
            rw [e112] at hM
            refine mk_Vi0 hJ dX9_lawful_166 cw_X9_157 rfl rfl rfl rfl (Nat.le_of_ble_eq_true rfl) (by decide) (hM) (fun z I2 b2 hq9 => ?_)
            obtain ⟨rfl, rfl, hf2⟩ := hq9
            refine hR _ _ _ _ _ dX9_lawful_169 nar_i ⟨?_, rfl, Same.of (fun c hc => (hf2 c (by omega)).trans (hf c (by omega)))⟩
            rw [eF, ht]
            show _ = brk (I 112) (fun v => bM (I 112) v + itm I s v)
            exact brk_congr (fun v v0 v1 => hv v v0 (by omega))
          | succ m ih =>
            intro k x I1 hk hkm ht hf hm hv
            have e112 := hf 112 (by omega)
            have b1 := bM_bd hw hk (show k < I 112 0 by omega)
            have b2 := (thk_bd _ ht).2.2 k hk (by omega)
            have e138 : I1 138 (40 * s + k) = itm I s k := by rw [hf 138 (by omega)]; rfl
            refine mj_iload hJ dX9_lawful_121 rfl ?_
            refine mj_aload_n hJ dX9_lawful_123 rfl ?_
            refine mk_getR hJ dX9_lawful_124 fw_X9_9 rfl (by decide) rfl rfl ?_
            refine mj_iconst hJ dX9_lawful_127 (by decide) ?_
            refine mk_iald hJ dX9_lawful_128 rfl (by omega) (by omega) ?_
            rw [e112]
            refine mj_icmp_ge (tgt := 165) hJ dX9_lawful_129 (by decide) (fun hyes => absurd hyes (by omega)) (fun _ => ?_)
            refine mj_aload_n hJ dX9_lawful_132 rfl ?_
            refine mk_getR hJ dX9_lawful_133 fw_X9_34 rfl (by decide) rfl rfl ?_
            refine mj_iload hJ dX9_lawful_136 rfl ?_
            refine mj_aload_n hJ dX9_lawful_138 rfl ?_
            refine mk_getR hJ dX9_lawful_139 fw_X9_31 rfl (by decide) rfl rfl ?_
            refine mj_iload hJ dX9_lawful_142 rfl ?_
            refine mk_iald hJ dX9_lawful_144 rfl (by omega) (by omega) ?_
            rw [hm k hk (by omega)]
            refine mj_aload_n hJ dX9_lawful_145 rfl ?_
            refine mk_getR hJ dX9_lawful_146 fw_X9_89 rfl (by decide) rfl rfl ?_
            refine mj_bipush hJ dX9_lawful_149 (by decide) ?_
            refine mj_iload_n hJ dX9_lawful_151 rfl ?_
            first | refine ms_imul hJ dX9_lawful_152 (by omega) ?_ | refine mj_imul hJ dX9_lawful_152 ?_
            refine mj_iload hJ dX9_lawful_153 rfl ?_
            first | refine ms_iadd hJ dX9_lawful_155 (by omega) ?_ | refine mj_iadd hJ dX9_lawful_155 ?_
            refine mk_iald hJ dX9_lawful_156 rfl (by omega) (by omega) ?_
            rw [e138]
            first | refine ms_iadd hJ dX9_lawful_157 (by omega) ?_ | refine mj_iadd hJ dX9_lawful_157 ?_
            refine mk_iast hJ dX9_lawful_158 rfl (by omega) (by omega) ?_
            refine ms_iinc (ls' := [_, _, _, _, _, _]) hJ dX9_lawful_159 rfl (by decide) rfl (wr_id (by omega)) rfl ?_
            refine mj_goto (tgt := 121) hJ dX9_lawful_162 (by decide) ?_
            refine ih (k + 1) x _ (by omega) (by omega) ht (fun c hc => (upI_ne (by omega)).trans (hf c hc)) (fun v v0 v1 => by rw [upI_ne (by omega)]; exact hm v v0 v1) (fun v v0 v1 => ?_)
            rw [upI_at]
            by_cases z : v = k
            · rw [if_pos z, z]
            · rw [if_neg z]
              exact hv v v0 (by omega)
        have L1 : ∀ (m : Nat) (k : Nat) (x : Int), (k + m : Int) = I 112 0 → thk (itm I s) k = some x → J 45 [vr 111, vi s, vu, vi x, vi k, vu] [] (mk I b) := by
          intro m
          induction m with
          | zero =>
            intro k x hk ht
            have ek : (I 112 0).toNat = k := by omega
            rw [← ek] at ht
            refine mj_iload hJ dX9_lawful_45 rfl ?_
            refine mj_aload_n hJ dX9_lawful_47 rfl ?_
            refine mk_getR hJ dX9_lawful_48 fw_X9_9 rfl (by decide) rfl rfl ?_
            refine mj_iconst hJ dX9_lawful_51 (by decide) ?_
            refine mk_iald hJ dX9_lawful_52 rfl (by omega) (by omega) ?_
            refine mj_icmp_ge (tgt := 104) hJ dX9_lawful_53 (by decide) (fun _ => ?_) (fun hno => absurd (by omega) hno)
            refine mj_iload_n hJ dX9_lawful_104 rfl ?_
            refine mj_if_eq (tgt := 112) hJ dX9_lawful_105 (by decide) (fun hx => ?_) (fun hx => ?_)
            · have hx : x = 0 := by omega
              subst hx
              refine mj_aload_n hJ dX9_lawful_112 rfl ?_
              refine mk_Vi0 hJ dX9_lawful_113 cw_X9_141 rfl rfl rfl rfl (Nat.le_of_ble_eq_true rfl) (by decide) (c_X9_findBest' hw) (fun z I1 b1 hq9 => ?_)
              obtain ⟨rfl, rfl, hf, hv⟩ := hq9
              refine ms_istore (ls' := [_, _, _, _, _, _]) hJ dX9_lawful_116 (by decide) rfl rfl ?_
              refine mj_iconst hJ dX9_lawful_118 (by decide) ?_
              refine ms_istore (ls' := [_, _, _, _, _, _]) hJ dX9_lawful_119 (by decide) rfl rfl ?_
              exact L2 (I 112 0).toNat 0 _ I1 (by omega) (by omega) ht (fun c hc => hf c (by omega)) (fun v v0 v1 => (hv v v0 v1).2.2) (fun v v0 v1 => by omega)
            · refine mj_sipush hJ dX9_lawful_108 (by decide) ?_
              refine hR _ _ _ _ _ dX9_lawful_111 nar_i ⟨?_, rfl, Same.rfl'⟩
              rw [eF, ht]
              show _ = if x = 0 then _ else _
              rw [if_neg hx]
          | succ m ih =>
            intro k x hk ht
            have b2 := thk_bd _ ht
            have st := thk_step ht
            refine mj_iload hJ dX9_lawful_45 rfl ?_
            refine mj_aload_n hJ dX9_lawful_47 rfl ?_
            refine mk_getR hJ dX9_lawful_48 fw_X9_9 rfl (by decide) rfl rfl ?_
            refine mj_iconst hJ dX9_lawful_51 (by decide) ?_
            refine mk_iald hJ dX9_lawful_52 rfl (by omega) (by omega) ?_
            refine mj_icmp_ge (tgt := 104) hJ dX9_lawful_53 (by decide) (fun hyes => absurd hyes (by omega)) (fun _ => ?_)
            refine mj_aload_n hJ dX9_lawful_56 rfl ?_
            refine mk_getR hJ dX9_lawful_57 fw_X9_89 rfl (by decide) rfl rfl ?_
            refine mj_bipush hJ dX9_lawful_60 (by decide) ?_
            refine mj_iload_n hJ dX9_lawful_62 rfl ?_
            first | refine ms_imul hJ dX9_lawful_63 (by omega) ?_ | refine mj_imul hJ dX9_lawful_63 ?_
            refine mj_iload hJ dX9_lawful_64 rfl ?_
            first | refine ms_iadd hJ dX9_lawful_66 (by omega) ?_ | refine mj_iadd hJ dX9_lawful_66 ?_
            refine mk_iald hJ dX9_lawful_67 rfl (by omega) (by omega) ?_
            rw [show I 138 (40 * s + (k : Int)) = itm I s k from rfl]
            refine mj_sipush hJ dX9_lawful_68 (by decide) ?_
            refine mj_sipush hJ dX9_lawful_71 (by decide) ?_
            refine mk_Sp3 hJ dX9_lawful_74 cw_X9_104 rfl (Nat.le_of_ble_eq_true rfl) (by decide) (c_X9_in (itm I s k) (-9999) 9999) ?_
            by_cases c : -9999 ≤ itm I s k ∧ itm I s k ≤ 9999
            · rw [if_pos c] at st
              rw [if_pos c]
              refine mj_if_ne (tgt := 83) hJ dX9_lawful_77 (by decide) (fun _ => ?_) (fun hno => absurd hno (by decide))
              refine mj_iload_n hJ dX9_lawful_83 rfl ?_
              refine mj_aload_n hJ dX9_lawful_84 rfl ?_
              refine mk_getR hJ dX9_lawful_85 fw_X9_89 rfl (by decide) rfl rfl ?_
              refine mj_bipush hJ dX9_lawful_88 (by decide) ?_
              refine mj_iload_n hJ dX9_lawful_90 rfl ?_
              first | refine ms_imul hJ dX9_lawful_91 (by omega) ?_ | refine mj_imul hJ dX9_lawful_91 ?_
              refine mj_iload hJ dX9_lawful_92 rfl ?_
              first | refine ms_iadd hJ dX9_lawful_94 (by omega) ?_ | refine mj_iadd hJ dX9_lawful_94 ?_
              refine mk_iald hJ dX9_lawful_95 rfl (by omega) (by omega) ?_
              rw [show I 138 (40 * s + (k : Int)) = itm I s k from rfl]
              first | refine ms_iadd hJ dX9_lawful_96 (by omega) ?_ | refine mj_iadd hJ dX9_lawful_96 ?_
              refine ms_istore_n (ls' := [_, _, _, _, _, _]) hJ dX9_lawful_97 (by decide) rfl rfl ?_
              refine ms_iinc (ls' := [_, _, _, _, _, _]) hJ dX9_lawful_98 rfl (by decide) rfl (wr_id (by omega)) rfl ?_
              refine mj_goto (tgt := 45) hJ dX9_lawful_101 (by decide) ?_
              exact ih (k + 1) _ (by omega) st
            · rw [if_neg c] at st
              rw [if_neg c]
              refine mj_if_ne (tgt := 83) hJ dX9_lawful_77 (by decide) (fun hyes => absurd (by decide) hyes) (fun _ => ?_)
              refine mj_bipush hJ dX9_lawful_80 (by decide) ?_
              refine hR _ _ _ _ _ dX9_lawful_82 nar_i ⟨?_, rfl, Same.rfl'⟩
              have tn := thk_none st m
              rw [show k + 1 + m = (I 112 0).toNat by omega] at tn
              rw [eF, tn]
        refine mj_iconst hJ dX9_lawful_40 (by decide) ?_
        refine ms_istore_n (ls' := [_, _, _, _, _, _]) hJ dX9_lawful_41 (by decide) rfl rfl ?_
        refine mj_iconst hJ dX9_lawful_42 (by decide) ?_
        refine ms_istore (ls' := [_, _, _, _, _, _]) hJ dX9_lawful_43 (by decide) rfl rfl ?_
        refine mj_drop (ls' := [_, _, vu, _, _, vu]) hJ ⟨Or.inl rfl, Or.inl rfl, Or.inr rfl, Or.inl rfl, Or.inl rfl, Or.inr rfl, trivial⟩ ?_
        exact L1 (I 112 0).toNat 0 0 (by omega) rfl
      · refine mj_bipush hJ dX9_lawful_37 (by decide) ?_
        exact hR _ _ _ _ _ dX9_lawful_39 nar_i ⟨(no (Or.inr h3)).symm, rfl, Same.rfl'⟩
    · refine mj_iload_n hJ dX9_lawful_20 rfl ?_
      exact hR _ _ _ _ _ dX9_lawful_21 nar_i ⟨by unfold F_lawful; rw [if_pos h, if_neg h2], rfl, Same.rfl'⟩
  · rw [if_neg h]
    refine mj_if_ne (tgt := 9) hJ dX9_lawful_4 (by decide) (fun hyes => absurd (by decide) hyes) (fun _ => ?_)
    refine mj_iconst hJ dX9_lawful_7 (by decide) ?_
    exact hR _ _ _ _ _ dX9_lawful_8 nar_i ⟨by unfold F_lawful; rw [if_neg h], rfl, Same.rfl'⟩
theorem c_X9_year (w : Int) (hw : WN (I 112)) : MtI G yX9_year cX9_year 3 (some .int) 1 [vr 111, vi w] I b (Qg (G_year I w) b (F_year I w)) := by
  refine mt_enterI (own := RX9) (ls0 := [vr 111, vi w, vu]) rfl (by decide +kernel) (Nat.le_of_ble_eq_true rfl) rfl rfl (fun J hJ hR => ?_)
  have hn := hw.ny
  refine mj_iload_n hJ dX9_year_0 rfl ?_
  refine mj_iconst hJ dX9_year_1 (by decide) ?_
  refine mj_bipush hJ dX9_year_2 (by decide) ?_
  refine mk_Sp3 hJ dX9_year_4 cw_X9_104 rfl (Nat.le_of_ble_eq_true rfl) (by decide) (c_X9_in w 0 20) ?_
  by_cases h : 0 ≤ w ∧ w ≤ 20
  · rw [if_pos h]
    refine mj_if_ne (tgt := 12) hJ dX9_year_7 (by decide) (fun _ => ?_) (fun hno => absurd hno (by decide))
    refine mj_aload_n hJ dX9_year_12 rfl ?_
    refine mk_getR hJ dX9_year_13 fw_X9_9 rfl (by decide) rfl rfl ?_
    refine mj_iconst hJ dX9_year_16 (by decide) ?_
    refine mk_iald hJ dX9_year_17 rfl (by omega) (by omega) ?_
    refine ms_istore_n (ls' := [_, _, _]) hJ dX9_year_18 (by decide) rfl rfl ?_
    refine mj_iload_n hJ dX9_year_19 rfl ?_
    refine mj_bipush hJ dX9_year_20 (by decide) ?_
    refine mj_icmp_ne (tgt := 28) hJ dX9_year_22 (by decide) (fun h6 => ?_) (fun h6 => ?_)
    · refine mj_aload_n hJ dX9_year_28 rfl ?_
      refine mk_getR hJ dX9_year_29 fw_X9_9 rfl (by decide) rfl rfl ?_
      refine mj_bipush hJ dX9_year_32 (by decide) ?_
      refine mj_iload_n hJ dX9_year_34 rfl ?_
      first | refine ms_iadd hJ dX9_year_35 (by omega) ?_ | refine mj_iadd hJ dX9_year_35 ?_
      refine mj_iload_n hJ dX9_year_36 rfl ?_
      refine mk_iast hJ dX9_year_37 rfl (by omega) (by omega) ?_
      refine mj_aload_n hJ dX9_year_38 rfl ?_
      refine mk_getR hJ dX9_year_39 fw_X9_9 rfl (by decide) rfl rfl ?_
      refine mj_iconst hJ dX9_year_42 (by decide) ?_
      refine mj_dup2 hJ dX9_year_43 ?_
      refine mk_iald hJ dX9_year_44 rfl (by omega) (by omega) ?_
      rw [upI_at, if_neg (by omega)]
      refine mj_iconst hJ dX9_year_45 (by decide) ?_
      first | refine ms_iadd hJ dX9_year_46 (by omega) ?_ | refine mj_iadd hJ dX9_year_46 ?_
      refine mk_iast hJ dX9_year_47 rfl (by omega) (by omega) ?_
      refine mj_iload_n hJ dX9_year_48 rfl ?_
      exact hR _ _ _ _ _ dX9_year_49 nar_i ⟨by unfold F_year; rw [if_pos h, if_neg h6], rfl, Same.eq (by unfold G_year; rw [if_pos ⟨h, h6⟩])⟩
    · refine mj_bipush hJ dX9_year_25 (by decide) ?_
      exact hR _ _ _ _ _ dX9_year_27 nar_i ⟨by unfold F_year; rw [if_pos h, if_pos (by omega)], rfl, Same.eq (by unfold G_year; rw [if_neg (fun q => q.2 (by omega))])⟩
  · rw [if_neg h]
    refine mj_if_ne (tgt := 12) hJ dX9_year_7 (by decide) (fun hyes => absurd (by decide) hyes) (fun _ => ?_)
    refine mj_iconst hJ dX9_year_10 (by decide) ?_
    exact hR _ _ _ _ _ dX9_year_11 nar_i ⟨by unfold F_year; rw [if_neg h], rfl, Same.eq (by unfold G_year; rw [if_neg (fun q => h q.1)])⟩
theorem c_X9_yearOf (y w : Int) (hw : WN (I 112)) : MtI G yX9_yearOf cX9_yearOf 4 (some .int) 1 [vr 111, vi y, vi w] I b (Qg (G_yearOf I y w) b (F_yearOf I y w)) := by
  refine mt_enterI (own := RX9) (ls0 := [vr 111, vi y, vi w, vu]) rfl (by decide +kernel) (Nat.le_of_ble_eq_true rfl) rfl rfl (fun J hJ hR => ?_)
  have hn := hw.ny
  have no : ¬ yofP I y w → J 26 [vr 111, vi y, vi w, vu] [] (mk I b) := by
    intro hno
    refine mj_iconst hJ dX9_yearOf_26 (by decide) ?_
    exact hR _ _ _ _ _ dX9_yearOf_27 nar_i ⟨by unfold F_yearOf; rw [if_neg hno], rfl, Same.eq (by unfold G_yearOf; rw [if_neg hno])⟩
  refine mj_iload_n hJ dX9_yearOf_0 rfl ?_
  refine mj_iconst hJ dX9_yearOf_1 (by decide) ?_
  refine mj_aload_n hJ dX9_yearOf_2 rfl ?_
  refine mk_getR hJ dX9_yearOf_3 fw_X9_9 rfl (by decide) rfl rfl ?_
  refine mj_iconst hJ dX9_yearOf_6 (by decide) ?_
  refine mk_iald hJ dX9_yearOf_7 rfl (by omega) (by omega) ?_
  refine mj_iconst hJ dX9_yearOf_8 (by decide) ?_
  first | refine ms_isub hJ dX9_yearOf_9 (by omega) ?_ | refine mj_isub hJ dX9_yearOf_9 ?_
  refine mk_Sp3 hJ dX9_yearOf_10 cw_X9_104 rfl (Nat.le_of_ble_eq_true rfl) (by decide) (c_X9_in y 0 (I 112 1 - 1)) ?_
  by_cases h : 0 ≤ y ∧ y ≤ I 112 1 - 1
  · rw [if_pos h]
    refine mj_if_eq (tgt := 26) hJ dX9_yearOf_13 (by decide) (fun hyes => absurd hyes (by decide)) (fun _ => ?_)
    refine mj_iload_n hJ dX9_yearOf_16 rfl ?_
    refine mj_iconst hJ dX9_yearOf_17 (by decide) ?_
    refine mj_bipush hJ dX9_yearOf_18 (by decide) ?_
    refine mk_Sp3 hJ dX9_yearOf_20 cw_X9_104 rfl (Nat.le_of_ble_eq_true rfl) (by decide) (c_X9_in w 0 20) ?_
    by_cases h2 : 0 ≤ w ∧ w ≤ 20
    · rw [if_pos h2]
      have hP : yofP I y w := ⟨by omega, h2⟩
      refine mj_if_ne (tgt := 28) hJ dX9_yearOf_23 (by decide) (fun _ => ?_) (fun hno => absurd hno (by decide))
      refine mj_aload_n hJ dX9_yearOf_28 rfl ?_
      refine mk_getR hJ dX9_yearOf_29 fw_X9_9 rfl (by decide) rfl rfl ?_
      refine mj_bipush hJ dX9_yearOf_32 (by decide) ?_
      refine mj_iload_n hJ dX9_yearOf_34 rfl ?_
      first | refine ms_iadd hJ dX9_yearOf_35 (by omega) ?_ | refine mj_iadd hJ dX9_yearOf_35 ?_
      refine mk_iald hJ dX9_yearOf_36 rfl (by omega) (by omega) ?_
      refine ms_istore_n (ls' := [_, _, _, _]) hJ dX9_yearOf_37 (by decide) rfl rfl ?_
      refine mj_aload_n hJ dX9_yearOf_38 rfl ?_
      refine mk_getR hJ dX9_yearOf_39 fw_X9_9 rfl (by decide) rfl rfl ?_
      refine mj_bipush hJ dX9_yearOf_42 (by decide) ?_
      refine mj_iload_n hJ dX9_yearOf_44 rfl ?_
      first | refine ms_iadd hJ dX9_yearOf_45 (by omega) ?_ | refine mj_iadd hJ dX9_yearOf_45 ?_
      refine mj_iload_n hJ dX9_yearOf_46 rfl ?_
      refine mk_iast hJ dX9_yearOf_47 rfl (by omega) (by omega) ?_
      refine mj_iload_n hJ dX9_yearOf_48 rfl ?_
      exact hR _ _ _ _ _ dX9_yearOf_49 nar_i ⟨by unfold F_yearOf; rw [if_pos hP], rfl, Same.eq (by unfold G_yearOf; rw [if_pos hP])⟩
    · rw [if_neg h2]
      refine mj_if_ne (tgt := 28) hJ dX9_yearOf_23 (by decide) (fun hyes => absurd (by decide) hyes) (fun _ => ?_)
      exact no (fun q => h2 q.2)
  · rw [if_neg h]
    refine mj_if_eq (tgt := 26) hJ dX9_yearOf_13 (by decide) (fun _ => ?_) (fun hno => absurd (by decide) hno)
    exact no (fun q => h (by have := q.1; omega))
theorem c_X9_dam (v w : Int) (hw : WN (I 112)) : MtI G yX9_dam cX9_dam 3 (some .int) 2 [vr 111, vi v, vi w] I b (Qg (G_dam I v w) b (F_dam I v w)) := by
  refine mt_enterI (own := RX9) (ls0 := [vr 111, vi v, vi w]) rfl (by decide +kernel) (Nat.le_of_ble_eq_true rfl) rfl rfl (fun J hJ hR => ?_)
  have hn := hw.nv
  have no : ¬ damP I v w → J 22 [vr 111, vi v, vi w] [] (mk I b) := by
    intro hno
    refine mj_iconst hJ dX9_dam_22 (by decide) ?_
    exact hR _ _ _ _ _ dX9_dam_23 nar_i ⟨by unfold F_dam; rw [if_neg hno], rfl, Same.eq (by unfold G_dam; rw [if_neg hno])⟩
  have go : (v = -1 ∨ (0 ≤ v ∧ v < I 112 0)) → J 13 [vr 111, vi v, vi w] [] (mk I b) := by
    intro hv
    refine mj_iload_n hJ dX9_dam_13 rfl ?_
    refine mj_iconst hJ dX9_dam_14 (by decide) ?_
    refine mj_iconst hJ dX9_dam_15 (by decide) ?_
    refine mk_Sp3 hJ dX9_dam_16 cw_X9_104 rfl (Nat.le_of_ble_eq_true rfl) (by decide) (c_X9_in w 0 4) ?_
    by_cases h2 : 0 ≤ w ∧ w ≤ 4
    · rw [if_pos h2]
      have hP : damP I v w := ⟨hv, h2⟩
      refine mj_if_ne (tgt := 24) hJ dX9_dam_19 (by decide) (fun _ => ?_) (fun hno => absurd hno (by decide))
      refine mj_aload_n hJ dX9_dam_24 rfl ?_
      refine mk_getR hJ dX9_dam_25 fw_X9_9 rfl (by decide) rfl rfl ?_
      refine mj_iconst hJ dX9_dam_28 (by decide) ?_
      refine mj_iload_n hJ dX9_dam_29 rfl ?_
      refine mk_iast hJ dX9_dam_30 rfl (by omega) (by omega) ?_
      refine mj_aload_n hJ dX9_dam_31 rfl ?_
      refine mk_getR hJ dX9_dam_32 fw_X9_9 rfl (by decide) rfl rfl ?_
      refine mj_iconst hJ dX9_dam_35 (by decide) ?_
      refine mj_iload_n hJ dX9_dam_36 rfl ?_
      refine mk_iast hJ dX9_dam_37 rfl (by omega) (by omega) ?_
      refine mj_iconst hJ dX9_dam_38 (by decide) ?_
      exact hR _ _ _ _ _ dX9_dam_39 nar_i ⟨by unfold F_dam; rw [if_pos hP], rfl, Same.eq (by unfold G_dam; rw [if_pos hP])⟩
    · rw [if_neg h2]
      refine mj_if_ne (tgt := 24) hJ dX9_dam_19 (by decide) (fun hyes => absurd (by decide) hyes) (fun _ => ?_)
      exact no (fun q => h2 q.2)
  refine mj_iload_n hJ dX9_dam_0 rfl ?_
  refine mj_iconst hJ dX9_dam_1 (by decide) ?_
  refine mj_icmp_eq (tgt := 13) hJ dX9_dam_2 (by decide) (fun h => ?_) (fun h => ?_)
  · exact go (Or.inl h)
  · refine mj_aload_n hJ dX9_dam_5 rfl ?_
    refine mj_iload_n hJ dX9_dam_6 rfl ?_
    refine mk_Vp1 hJ dX9_dam_7 cw_X9_112 rfl rfl rfl rfl (Nat.le_of_ble_eq_true rfl) (by decide) (c_X9_isVillage v hn.1 hn.2) ?_
    by_cases h2 : 0 ≤ v ∧ v < I 112 0
    · rw [if_pos h2]
      refine mj_if_eq (tgt := 22) hJ dX9_dam_10 (by decide) (fun hyes => absurd hyes (by decide)) (fun _ => ?_)
      exact go (Or.inr h2)
    · rw [if_neg h2]
      refine mj_if_eq (tgt := 22) hJ dX9_dam_10 (by decide) (fun _ => ?_) (fun hno => absurd (by decide) hno)
      exact no (fun q => q.1.elim h h2)
end M8
