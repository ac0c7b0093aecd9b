section M11
variable {G : GE} {I : Ints} {b : Bool}
theorem ax1 {k i : Int} {I : Ints} {c : Nat} {z : Int} (h : k ≠ i) : upI I c i z c k = I c k := by rw [upI_at, if_neg h]
theorem c_X9_prove (hw : WN (I 112)) : MtI G yX9_prove cX9_prove 3 (some .int) 6 [vr 111] I b (Qg (G_prove I) b (F_prove I)) := by
  refine mt_enterI (own := RX9) (ls0 := [vr 111, vu, vu]) rfl (by decide +kernel) (Nat.le_of_ble_eq_true rfl) rfl rfl (fun J hJ hR => ?_)
  have hn := hw.nv
  refine mj_aload_n hJ dX9_prove_0 rfl ?_
  refine mk_Vi0 hJ dX9_prove_1 cw_X9_141 rfl rfl rfl rfl (Nat.le_of_ble_eq_true rfl) (by decide) (c_X9_findBest' hw) (fun z I1 b1 hq9 => ?_)
  obtain ⟨rfl, rfl, hf, hv⟩ := hq9
  have e112 := hf 112 (by omega)
  have hv0 := hv
  refine ms_istore_n (ls' := [_, _, _]) hJ dX9_prove_4 (by decide) rfl rfl ?_
  refine mj_aload_n hJ dX9_prove_5 rfl ?_
  refine mj_aload_n hJ dX9_prove_6 rfl ?_
  refine mk_getR hJ dX9_prove_7 fw_X9_9 rfl (by decide) rfl rfl ?_
  refine mj_iconst hJ dX9_prove_10 (by decide) ?_
  refine mk_iald hJ dX9_prove_11 rfl (by omega) (by omega) ?_
  rw [e112]
  refine mk_putI (j' := 31) hJ dX9_prove_12 fw_X9_281 rfl (by decide) rfl rfl ?_
  refine mj_iconst hJ dX9_prove_15 (by decide) ?_
  refine ms_istore_n (ls' := [_, _, _]) hJ dX9_prove_16 (by decide) rfl rfl ?_
  have loop : ∀ (m : Nat) (k : Int) (I2 : Ints), 0 ≤ k → k + m = I 112 0 → (∀ c, c ≠ 111 → c ≠ 135 → I2 c = I1 c) → I2 111 = upI I1 111 31 (I 112 0) 111 → (∀ j, I2 135 j = if 0 ≤ j ∧ j < 3 * k then (if j % 3 = 0 then j / 3 else if j % 3 = 1 then bU (I 112) (j / 3) else bP (I 112) (j / 3)) else I 135 j) → J 17 [vr 111, vi (bestv (I 112) 10), vi k] [] (mk I2 b1) := by
    intro m
    induction m with
    | zero =>
      intro k I2 k0 km hf2 hr2 hr
      refine mj_iload_n hJ dX9_prove_17 rfl ?_
      refine mj_aload_n hJ dX9_prove_18 rfl ?_
      refine mk_getI (j' := 31) hJ dX9_prove_19 fw_X9_281 rfl (by decide) rfl rfl ?_
      rw [hr2, upI_at, if_pos rfl]
      refine mj_icmp_ge (tgt := 72) hJ dX9_prove_22 (by decide) (fun _ => ?_) (fun hno => absurd (by omega) hno)
      refine mj_aload_n hJ dX9_prove_72 rfl ?_
      refine mk_getI (j' := 31) hJ dX9_prove_73 fw_X9_281 rfl (by decide) rfl rfl ?_
      rw [hr2, upI_at, if_pos rfl]
      refine hR _ _ _ _ _ dX9_prove_76 nar_i ⟨rfl, rfl, ?_⟩
      have ek : k = I 112 0 := by omega
      subst ek
      have q : I2 135 = prow (I 112) (I 135) := funext hr
      have h1 : I2 111 = G_prove I 111 := by
        rw [hr2]
        show upI I1 111 31 (I 112 0) 111 = upI (rowI I 135 (prow (I 112) (I 135))) 111 31 (I 112 0) 111
        funext j
        rw [upI_at, upI_at, rowI_ne (by decide), hf 111 (by omega)]
      refine ⟨fun c hc => ?_, ?_, ?_, ?_, ?_⟩
      · by_cases c1 : c = 135
        · subst c1
          rw [q]
          show prow _ _ = upI _ 111 31 _ 135
          rw [upI_ne (by decide), rowI_at]
        · have : c ≠ 111 := by omega
          show I2 c = upI _ 111 31 _ c
          rw [upI_ne this, rowI_ne c1, hf2 c this c1]
          exact hf c (by omega)
      all_goals rw [h1]
    | succ m ih =>
      intro k I2 k0 km hf2 hr2 hr
      have hv := hv k k0 (by omega)
      have eu : I2 117 k = bU (I 112) k := by rw [hf2 117 (by decide) (by decide)]; exact hv.1
      have ep : I2 118 k = bP (I 112) k := by rw [hf2 118 (by decide) (by decide)]; exact hv.2.1
      refine mj_iload_n hJ dX9_prove_17 rfl ?_
      refine mj_aload_n hJ dX9_prove_18 rfl ?_
      refine mk_getI (j' := 31) hJ dX9_prove_19 fw_X9_281 rfl (by decide) rfl rfl ?_
      rw [hr2, upI_at, if_pos rfl]
      refine mj_icmp_ge (tgt := 72) hJ dX9_prove_22 (by decide) (fun hyes => absurd hyes (by omega)) (fun _ => ?_)
      refine mj_aload_n hJ dX9_prove_25 rfl ?_
      refine mk_getR hJ dX9_prove_26 fw_X9_80 rfl (by decide) rfl rfl ?_
      refine mj_iconst hJ dX9_prove_29 (by decide) ?_
      refine mj_iload_n hJ dX9_prove_30 rfl ?_
      first | refine ms_imul hJ dX9_prove_31 (by omega) ?_ | refine mj_imul hJ dX9_prove_31 ?_
      refine mj_iload_n hJ dX9_prove_32 rfl ?_
      refine mk_iast hJ dX9_prove_33 rfl (by omega) (by omega) ?_
      refine mj_aload_n hJ dX9_prove_34 rfl ?_
      refine mk_getR hJ dX9_prove_35 fw_X9_80 rfl (by decide) rfl rfl ?_
      refine mj_iconst hJ dX9_prove_38 (by decide) ?_
      refine mj_iload_n hJ dX9_prove_39 rfl ?_
      first | refine ms_imul hJ dX9_prove_40 (by omega) ?_ | refine mj_imul hJ dX9_prove_40 ?_
      refine mj_iconst hJ dX9_prove_41 (by decide) ?_
      first | refine ms_iadd hJ dX9_prove_42 (by omega) ?_ | refine mj_iadd hJ dX9_prove_42 ?_
      refine mj_aload_n hJ dX9_prove_43 rfl ?_
      refine mk_getR hJ dX9_prove_44 fw_X9_25 rfl (by decide) rfl rfl ?_
      refine mj_iload_n hJ dX9_prove_47 rfl ?_
      refine mk_iald hJ dX9_prove_48 rfl (by omega) (by omega) ?_
      rw [upI_ne (by decide), eu]
      refine mk_iast hJ dX9_prove_49 rfl (by omega) (by omega) ?_
      refine mj_aload_n hJ dX9_prove_50 rfl ?_
      refine mk_getR hJ dX9_prove_51 fw_X9_80 rfl (by decide) rfl rfl ?_
      refine mj_iconst hJ dX9_prove_54 (by decide) ?_
      refine mj_iload_n hJ dX9_prove_55 rfl ?_
      first | refine ms_imul hJ dX9_prove_56 (by omega) ?_ | refine mj_imul hJ dX9_prove_56 ?_
      refine mj_iconst hJ dX9_prove_57 (by decide) ?_
      first | refine ms_iadd hJ dX9_prove_58 (by omega) ?_ | refine mj_iadd hJ dX9_prove_58 ?_
      refine mj_aload_n hJ dX9_prove_59 rfl ?_
      refine mk_getR hJ dX9_prove_60 fw_X9_28 rfl (by decide) rfl rfl ?_
      refine mj_iload_n hJ dX9_prove_63 rfl ?_
      refine mk_iald hJ dX9_prove_64 rfl (by omega) (by omega) ?_
      rw [upI_ne (by decide), upI_ne (by decide), ep]
      refine mk_iast hJ dX9_prove_65 rfl (by omega) (by omega) ?_
      refine ms_iinc (ls' := [_, _, _]) hJ dX9_prove_66 rfl (by decide) rfl (wr_id (by omega)) rfl ?_
      refine mj_goto (tgt := 17) hJ dX9_prove_69 (by decide) ?_
      refine ih (k + 1) _ (by omega) (by omega) (fun c c1 c2 => by rw [upI_ne c2, upI_ne c2, upI_ne c2]; exact hf2 c c1 c2) (by rw [upI_ne (by decide), upI_ne (by decide), upI_ne (by decide)]; exact hr2) (fun j => ?_)
      rw [upI_at, upI_at, upI_at, hr]
      have d0 : (3 * k) / 3 = k := by omega
      have d1 : (3 * k + 1) / 3 = k := by omega
      have d2 : (3 * k + 2) / 3 = k := by omega
      by_cases j2 : j = 3 * k + 2
      · subst j2
        rw [if_pos rfl, if_pos (by omega), if_neg (by omega), if_neg (by omega), d2]
      · rw [if_neg j2]
        by_cases j1 : j = 3 * k + 1
        · subst j1
          rw [if_pos rfl, if_pos (by omega), if_neg (by omega), if_pos (by omega), d1]
        · rw [if_neg j1]
          by_cases j0 : j = 3 * k
          · subst j0
            rw [if_pos rfl, if_pos (by omega), if_pos (by omega), d0]
          · rw [if_neg j0]
            by_cases q : 0 ≤ j ∧ j < 3 * k
            · rw [if_pos q, if_pos (show 0 ≤ j ∧ j < 3 * (k + 1) by omega)]
            · rw [if_neg q, if_neg (by omega)]
  exact loop (I 112 0).toNat 0 _ (by omega) (by omega) (fun c c1 c2 => upI_ne c1) rfl (fun j => by rw [upI_ne (by decide), hf 135 (by omega), if_neg (by omega)])
theorem c_X9_isRow (i w : Int) (hs : WS I) : MtP G yX9_isRow cX9_isRow 3 (some .boolean) 1 [vr 111, vi i, vi w] I b (if rowP I i w then 1 else 0) := by
  refine mt_enterI (own := RX9) (ls0 := [vr 111, vi i, vi w]) rfl (by decide +kernel) (Nat.le_of_ble_eq_true rfl) rfl rfl (fun J hJ hR => ?_)
  have hr := hs.1
  have no : ¬ rowP I i w → J 27 [vr 111, vi i, vi w] [] (mk I b) := by
    intro hno
    refine mj_iconst hJ dX9_isRow_27 (by decide) ?_
    exact hR _ _ _ _ _ dX9_isRow_28 (nar_z (by first | exact Or.inl rfl | exact Or.inr rfl | assumption | omega)) ⟨by rw [if_neg hno], rfl, rfl⟩
  refine mj_iload_n hJ dX9_isRow_0 rfl ?_
  refine mj_iconst hJ dX9_isRow_1 (by decide) ?_
  refine mj_aload_n hJ dX9_isRow_2 rfl ?_
  refine mk_getI (j' := 31) hJ dX9_isRow_3 fw_X9_281 rfl (by decide) rfl rfl ?_
  refine mj_iconst hJ dX9_isRow_6 (by decide) ?_
  first | refine ms_isub hJ dX9_isRow_7 (by omega) ?_ | refine mj_isub hJ dX9_isRow_7 ?_
  refine mk_Sp3 hJ dX9_isRow_8 cw_X9_104 rfl (Nat.le_of_ble_eq_true rfl) (by decide) (c_X9_in i 0 (I 111 31 - 1)) ?_
  by_cases h : 0 ≤ i ∧ i ≤ I 111 31 - 1
  · rw [if_pos h]
    refine mj_if_eq (tgt := 27) hJ dX9_isRow_11 (by decide) (fun hyes => absurd hyes (by decide)) (fun _ => ?_)
    refine mj_iload_n hJ dX9_isRow_14 rfl ?_
    refine mj_iconst hJ dX9_isRow_15 (by decide) ?_
    refine mj_iconst hJ dX9_isRow_16 (by decide) ?_
    refine mk_Sp3 hJ dX9_isRow_17 cw_X9_104 rfl (Nat.le_of_ble_eq_true rfl) (by decide) (c_X9_in w 0 2) ?_
    by_cases h2 : 0 ≤ w ∧ w ≤ 2
    · rw [if_pos h2]
      refine mj_if_eq (tgt := 27) hJ dX9_isRow_20 (by decide) (fun hyes => absurd hyes (by decide)) (fun _ => ?_)
      refine mj_iconst hJ dX9_isRow_23 (by decide) ?_
      refine mj_goto (tgt := 28) hJ dX9_isRow_24 (by decide) ?_
      exact hR _ _ _ _ _ dX9_isRow_28 (nar_z (by first | exact Or.inl rfl | exact Or.inr rfl | assumption | omega)) ⟨by rw [if_pos ⟨by omega, h2⟩], rfl, rfl⟩
    · rw [if_neg h2]
      refine mj_if_eq (tgt := 27) hJ dX9_isRow_20 (by decide) (fun _ => ?_) (fun hno => absurd (by decide) hno)
      exact no (fun q => h2 q.2)
  · rw [if_neg h]
    refine mj_if_eq (tgt := 27) hJ dX9_isRow_11 (by decide) (fun _ => ?_) (fun hno => absurd (by decide) hno)
    exact no (fun q => h (by have := q.1; omega))
theorem c_X9_row (i w : Int) (hs : WS I) : MtI G yX9_row cX9_row 3 (some .int) 2 [vr 111, vi i, vi w] I b (Qs I b (F_row I i w)) := by
  refine mt_enterI (own := RX9) (ls0 := [vr 111, vi i, vi w]) rfl (by decide +kernel) (Nat.le_of_ble_eq_true rfl) rfl rfl (fun J hJ hR => ?_)
  have hr := hs.1
  refine mj_aload_n hJ dX9_row_0 rfl ?_
  refine mj_iload_n hJ dX9_row_1 rfl ?_
  refine mj_iload_n hJ dX9_row_2 rfl ?_
  refine mk_Vp2 hJ dX9_row_3 cw_X9_284 rfl rfl rfl rfl (Nat.le_of_ble_eq_true rfl) (by decide) (c_X9_isRow i w hs) ?_
  by_cases h : rowP I i w
  · have h1 := h.1
    have h2 := h.2
    rw [if_pos h]
    refine mj_if_eq (tgt := 22) hJ dX9_row_6 (by decide) (fun hyes => absurd hyes (by decide)) (fun _ => ?_)
    refine mj_aload_n hJ dX9_row_9 rfl ?_
    refine mk_getR hJ dX9_row_10 fw_X9_80 rfl (by decide) rfl rfl ?_
    refine mj_iconst hJ dX9_row_13 (by decide) ?_
    refine mj_iload_n hJ dX9_row_14 rfl ?_
    first | refine ms_imul hJ dX9_row_15 (by omega) ?_ | refine mj_imul hJ dX9_row_15 ?_
    refine mj_iload_n hJ dX9_row_16 rfl ?_
    first | refine ms_iadd hJ dX9_row_17 (by omega) ?_ | refine mj_iadd hJ dX9_row_17 ?_
    refine mk_iald hJ dX9_row_18 rfl (by omega) (by omega) ?_
    refine mj_goto (tgt := 24) hJ dX9_row_19 (by decide) ?_
    exact hR _ _ _ _ _ dX9_row_24 nar_i ⟨by unfold F_row; rw [if_pos h], rfl, Same.rfl'⟩
  · rw [if_neg h]
    refine mj_if_eq (tgt := 22) hJ dX9_row_6 (by decide) (fun _ => ?_) (fun hno => absurd (by decide) hno)
    refine mj_bipush hJ dX9_row_22 (by decide) ?_
    exact hR _ _ _ _ _ dX9_row_24 nar_i ⟨by unfold F_row; rw [if_neg h], rfl, Same.rfl'⟩
theorem c_X9_alterRow (i w v : Int) (hs : WS I) : MtI G yX9_alterRow cX9_alterRow 5 (some .int) 2 [vr 111, vi i, vi w, vi v] I b (Qg (G_alterRow I i w v) b (F_row I i w)) := by
  refine mt_enterI (own := RX9) (ls0 := [vr 111, vi i, vi w, vi v, vu]) rfl (by decide +kernel) (Nat.le_of_ble_eq_true rfl) rfl rfl (fun J hJ hR => ?_)
  have hr := hs.1
  refine mj_aload_n hJ dX9_alterRow_0 rfl ?_
  refine mj_iload_n hJ dX9_alterRow_1 rfl ?_
  refine mj_iload_n hJ dX9_alterRow_2 rfl ?_
  refine mk_Vp2 hJ dX9_alterRow_3 cw_X9_284 rfl rfl rfl rfl (Nat.le_of_ble_eq_true rfl) (by decide) (c_X9_isRow i w hs) ?_
  by_cases h : rowP I i w
  · have h1 := h.1
    have h2 := h.2
    rw [if_pos h]
    refine mj_if_ne (tgt := 12) hJ dX9_alterRow_6 (by decide) (fun _ => ?_) (fun hno => absurd hno (by decide))
    refine mj_aload_n hJ dX9_alterRow_12 rfl ?_
    refine mk_getR hJ dX9_alterRow_13 fw_X9_80 rfl (by decide) rfl rfl ?_
    refine mj_iconst hJ dX9_alterRow_16 (by decide) ?_
    refine mj_iload_n hJ dX9_alterRow_17 rfl ?_
    first | refine ms_imul hJ dX9_alterRow_18 (by omega) ?_ | refine mj_imul hJ dX9_alterRow_18 ?_
    refine mj_iload_n hJ dX9_alterRow_19 rfl ?_
    first | refine ms_iadd hJ dX9_alterRow_20 (by omega) ?_ | refine mj_iadd hJ dX9_alterRow_20 ?_
    refine mk_iald hJ dX9_alterRow_21 rfl (by omega) (by omega) ?_
    refine ms_istore (ls' := [_, _, _, _, _]) hJ dX9_alterRow_22 (by decide) rfl rfl ?_
    refine mj_aload_n hJ dX9_alterRow_24 rfl ?_
    refine mk_getR hJ dX9_alterRow_25 fw_X9_80 rfl (by decide) rfl rfl ?_
    refine mj_iconst hJ dX9_alterRow_28 (by decide) ?_
    refine mj_iload_n hJ dX9_alterRow_29 rfl ?_
    first | refine ms_imul hJ dX9_alterRow_30 (by omega) ?_ | refine mj_imul hJ dX9_alterRow_30 ?_
    refine mj_iload_n hJ dX9_alterRow_31 rfl ?_
    first | refine ms_iadd hJ dX9_alterRow_32 (by omega) ?_ | refine mj_iadd hJ dX9_alterRow_32 ?_
    refine mj_iload_n hJ dX9_alterRow_33 rfl ?_
    refine mk_iast hJ dX9_alterRow_34 rfl (by omega) (by omega) ?_
    refine mj_iload hJ dX9_alterRow_35 rfl ?_
    exact hR _ _ _ _ _ dX9_alterRow_37 nar_i ⟨by unfold F_row; rw [if_pos h], rfl, Same.eq (by unfold G_alterRow; rw [if_pos h])⟩
  · rw [if_neg h]
    refine mj_if_ne (tgt := 12) hJ dX9_alterRow_6 (by decide) (fun hyes => absurd (by decide) hyes) (fun _ => ?_)
    refine mj_bipush hJ dX9_alterRow_9 (by decide) ?_
    exact hR _ _ _ _ _ dX9_alterRow_11 nar_i ⟨by unfold F_row; rw [if_neg h], rfl, Same.eq (by unfold G_alterRow; rw [if_neg h])⟩
theorem c_X9_judge (hw : WN (I 112)) (hs : WS I) : MtI G yX9_judge cX9_judge 6 (some .int) 5 [vr 111] I b (Qs I b (F_judge I)) := by
  refine mt_enterI (own := RX9) (ls0 := [vr 111, vu, vu, vu, vu, vu]) rfl (by decide +kernel) (Nat.le_of_ble_eq_true rfl) rfl rfl (fun J hJ hR => ?_)
  have hn := hw.nv
  have hr := hs.1
  have loop : ∀ (m : Nat) (i ab s x y : Int), 0 ≤ i → i + m = I 111 31 → (0 ≤ ab ∧ ab ≤ 12 * i) → (-2000 * i ≤ s ∧ s ≤ 2000 * i) → jdg I m i ab s = F_judge I → J 6 [vr 111, vi ab, vi s, vi i, vu, vu] [] (mk I b) := by
    intro m
    induction m with
    | zero =>
      intro i ab s x y i0 im a0 s0 hj
      have hj2 : (if I 111 31 = I 112 0 then (if s < bestv (I 112) 10 then 22 else 0) else 21) = F_judge I := hj
      refine mj_iload_n hJ dX9_judge_6 rfl ?_
      refine mj_aload_n hJ dX9_judge_7 rfl ?_
      refine mk_getI (j' := 31) hJ dX9_judge_8 fw_X9_281 rfl (by decide) rfl rfl ?_
      refine mj_icmp_ge (tgt := 133) hJ dX9_judge_11 (by decide) (fun _ => ?_) (fun hno => absurd (by omega) hno)
      refine mj_aload_n hJ dX9_judge_133 rfl ?_
      refine mk_getI (j' := 31) hJ dX9_judge_134 fw_X9_281 rfl (by decide) rfl rfl ?_
      refine mj_aload_n hJ dX9_judge_137 rfl ?_
      refine mk_getR hJ dX9_judge_138 fw_X9_9 rfl (by decide) rfl rfl ?_
      refine mj_iconst hJ dX9_judge_141 (by decide) ?_
      refine mk_iald hJ dX9_judge_142 rfl (by omega) (by omega) ?_
      refine mj_icmp_eq (tgt := 149) hJ dX9_judge_143 (by decide) (fun h => ?_) (fun h => ?_)
      · rw [if_pos h] at hj2
        refine mj_iload_n hJ dX9_judge_149 rfl ?_
        refine mj_aload_n hJ dX9_judge_150 rfl ?_
        refine mj_bipush hJ dX9_judge_151 (by decide) ?_
        refine mk_Vi1 hJ dX9_judge_153 cw_X9_136 rfl rfl rfl rfl (Nat.le_of_ble_eq_true rfl) (by decide) (c_X9_bestOf 10 hw (by omega) (by omega)) (fun z I1 b1 hq9 => ?_)
        obtain ⟨rfl, rfl, hf, -, -⟩ := hq9
        refine mj_icmp_ge (tgt := 164) hJ dX9_judge_156 (by decide) (fun h2 => ?_) (fun h2 => ?_)
        · refine mj_iconst hJ dX9_judge_164 (by decide) ?_
          exact hR _ _ _ _ _ dX9_judge_165 nar_i ⟨by rw [← hj2, if_neg (by omega)], rfl, Same.of (fun c hc => hf c (by omega))⟩
        · refine mj_bipush hJ dX9_judge_159 (by decide) ?_
          refine mj_goto (tgt := 165) hJ dX9_judge_161 (by decide) ?_
          exact hR _ _ _ _ _ dX9_judge_165 nar_i ⟨by rw [← hj2, if_pos (by omega)], rfl, Same.of (fun c hc => hf c (by omega))⟩
      · refine mj_bipush hJ dX9_judge_146 (by decide) ?_
        exact hR _ _ _ _ _ dX9_judge_148 nar_i ⟨by rw [← hj2, if_neg h], rfl, Same.rfl'⟩
    | succ m ih =>
      intro i ab s x y i0 im a0 s0 hj
      have hj2 : (if jdP I i ab then jdg I m (i + 1) (I 135 (3 * i + 2)) (s + mde (I 112) i (I 135 (3 * i + 1)) (I 135 (3 * i + 2))) else i + 1) = F_judge I := hj
      have no34 : ¬ jdP I i ab → J 34 [vr 111, vi ab, vi s, vi i, vu, vu] [] (mk I b) := by
        intro hno
        rw [if_neg hno] at hj2
        refine mj_iload_n hJ dX9_judge_34 rfl ?_
        refine mj_iconst hJ dX9_judge_35 (by decide) ?_
        first | refine ms_iadd hJ dX9_judge_36 (by omega) ?_ | refine mj_iadd hJ dX9_judge_36 ?_
        exact hR _ _ _ _ _ dX9_judge_37 nar_i ⟨hj2, rfl, Same.rfl'⟩
      refine mj_iload_n hJ dX9_judge_6 rfl ?_
      refine mj_aload_n hJ dX9_judge_7 rfl ?_
      refine mk_getI (j' := 31) hJ dX9_judge_8 fw_X9_281 rfl (by decide) rfl rfl ?_
      refine mj_icmp_ge (tgt := 133) hJ dX9_judge_11 (by decide) (fun hyes => absurd hyes (by omega)) (fun _ => ?_)
      refine mj_aload_n hJ dX9_judge_14 rfl ?_
      refine mj_iload_n hJ dX9_judge_15 rfl ?_
      refine mk_Vp1 hJ dX9_judge_16 cw_X9_112 rfl rfl rfl rfl (Nat.le_of_ble_eq_true rfl) (by decide) (c_X9_isVillage i hn.1 hn.2) ?_
      by_cases h1 : 0 ≤ i ∧ i < I 112 0
      · rw [if_pos h1]
        refine mj_if_eq (tgt := 34) hJ dX9_judge_19 (by decide) (fun hyes => absurd hyes (by decide)) (fun _ => ?_)
        have fl := (hw.fact i0 (show i < 6 by omega)).1
        refine mj_aload_n hJ dX9_judge_22 rfl ?_
        refine mk_getR hJ dX9_judge_23 fw_X9_80 rfl (by decide) rfl rfl ?_
        refine mj_iconst hJ dX9_judge_26 (by decide) ?_
        refine mj_iload_n hJ dX9_judge_27 rfl ?_
        first | refine ms_imul hJ dX9_judge_28 (by omega) ?_ | refine mj_imul hJ dX9_judge_28 ?_
        refine mk_iald hJ dX9_judge_29 rfl (by omega) (by omega) ?_
        refine mj_iload_n hJ dX9_judge_30 rfl ?_
        refine mj_icmp_eq (tgt := 38) hJ dX9_judge_31 (by decide) (fun h2 => ?_) (fun h2 => ?_)
        · have no96 : ¬ jdP I i ab → ∀ c u, J 96 [vr 111, vi ab, vi s, vi i, vi c, vi u] [] (mk I b) := by
            intro hno c u
            rw [if_neg hno] at hj2
            refine mj_iload_n hJ dX9_judge_96 rfl ?_
            refine mj_iconst hJ dX9_judge_97 (by decide) ?_
            first | refine ms_iadd hJ dX9_judge_98 (by omega) ?_ | refine mj_iadd hJ dX9_judge_98 ?_
            exact hR _ _ _ _ _ dX9_judge_99 nar_i ⟨hj2, rfl, Same.rfl'⟩
          refine mj_iload_n hJ dX9_judge_38 rfl ?_
          refine mj_aload_n hJ dX9_judge_39 rfl ?_
          refine mj_iload_n hJ dX9_judge_40 rfl ?_
          refine mj_iconst hJ dX9_judge_41 (by decide) ?_
          refine mk_Vp2 hJ dX9_judge_42 cw_X9_116 rfl rfl rfl rfl (Nat.le_of_ble_eq_true rfl) (by decide) (c_X9_of i 0 i0 (by omega) (by omega) (by omega)) ?_
          first | refine ms_iadd hJ dX9_judge_45 (by omega) ?_ | refine mj_iadd hJ dX9_judge_45 ?_
          refine ms_istore (ls' := [_, _, _, _, _, _]) hJ dX9_judge_46 (by decide) rfl rfl ?_
          refine mj_aload_n hJ dX9_judge_48 rfl ?_
          refine mk_getR hJ dX9_judge_49 fw_X9_80 rfl (by decide) rfl rfl ?_
          refine mj_iconst hJ dX9_judge_52 (by decide) ?_
          refine mj_iload_n hJ dX9_judge_53 rfl ?_
          first | refine ms_imul hJ dX9_judge_54 (by omega) ?_ | refine mj_imul hJ dX9_judge_54 ?_
          refine mj_iconst hJ dX9_judge_55 (by decide) ?_
          first | refine ms_iadd hJ dX9_judge_56 (by omega) ?_ | refine mj_iadd hJ dX9_judge_56 ?_
          refine mk_iald hJ dX9_judge_57 rfl (by omega) (by omega) ?_
          refine ms_istore (ls' := [_, _, _, _, _, _]) hJ dX9_judge_58 (by decide) rfl rfl ?_
          refine mj_iload hJ dX9_judge_60 rfl ?_
          refine mj_iconst hJ dX9_judge_62 (by decide) ?_
          refine mj_bipush hJ dX9_judge_63 (by decide) ?_
          refine mk_Sp3 hJ dX9_judge_65 cw_X9_104 rfl (Nat.le_of_ble_eq_true rfl) (by decide) (c_X9_in (I 135 (3 * i + 1)) 0 12) ?_
          by_cases h3 : 0 ≤ I 135 (3 * i + 1) ∧ I 135 (3 * i + 1) ≤ 12
          · rw [if_pos h3]
            refine mj_if_eq (tgt := 96) hJ dX9_judge_68 (by decide) (fun hyes => absurd hyes (by decide)) (fun _ => ?_)
            refine mj_iload hJ dX9_judge_71 rfl ?_
            refine mj_iload hJ dX9_judge_73 rfl ?_
            refine mj_icmp_gt (tgt := 96) hJ dX9_judge_75 (by decide) (fun h4 => ?_) (fun h4 => ?_)
            · exact no96 (fun q => by have := q.2.2.1; omega) _ _
            · refine mj_aload_n hJ dX9_judge_78 rfl ?_
              refine mk_getR hJ dX9_judge_79 fw_X9_80 rfl (by decide) rfl rfl ?_
              refine mj_iconst hJ dX9_judge_82 (by decide) ?_
              refine mj_iload_n hJ dX9_judge_83 rfl ?_
              first | refine ms_imul hJ dX9_judge_84 (by omega) ?_ | refine mj_imul hJ dX9_judge_84 ?_
              refine mj_iconst hJ dX9_judge_85 (by decide) ?_
              first | refine ms_iadd hJ dX9_judge_86 (by omega) ?_ | refine mj_iadd hJ dX9_judge_86 ?_
              refine mk_iald hJ dX9_judge_87 rfl (by omega) (by omega) ?_
              refine mj_iload hJ dX9_judge_88 rfl ?_
              refine mj_iload hJ dX9_judge_90 rfl ?_
              first | refine ms_isub hJ dX9_judge_92 (by omega) ?_ | refine mj_isub hJ dX9_judge_92 ?_
              refine mj_icmp_eq (tgt := 100) hJ dX9_judge_93 (by decide) (fun h5 => ?_) (fun h5 => ?_)
              · have hP : jdP I i ab := ⟨⟨h1.2, h2⟩, h3, by omega, h5⟩
                rw [if_pos hP] at hj2
                have fb := fst_bd hw i0 (show i < 6 by omega) (I 135 (3 * i + 1)).toNat (by omega)
                have hb := hrm_bd hw i0 (show i < 6 by omega) (p := I 135 (3 * i + 2)) (by omega) (by omega)
                have em : mde (I 112) i (I 135 (3 * i + 1)) (I 135 (3 * i + 2)) = fst (I 112) i (I 135 (3 * i + 1)).toNat - hrm (I 112) i (I 135 (3 * i + 2)) := rfl
                refine mj_iload_n hJ dX9_judge_100 rfl ?_
                refine mj_aload_n hJ dX9_judge_101 rfl ?_
                refine mj_iload_n hJ dX9_judge_102 rfl ?_
                refine mj_iload hJ dX9_judge_103 rfl ?_
                refine mk_Vp2 hJ dX9_judge_105 cw_X9_123 rfl rfl rfl rfl (Nat.le_of_ble_eq_true rfl) (by decide) (c_X9_firstI i _ i0 (by omega) h3.1 h3.2 hw) ?_
                refine mj_aload_n hJ dX9_judge_108 rfl ?_
                refine mj_iload_n hJ dX9_judge_109 rfl ?_
                refine mj_iload hJ dX9_judge_110 rfl ?_
                refine mj_iload hJ dX9_judge_112 rfl ?_
                first | refine ms_isub hJ dX9_judge_114 (by omega) ?_ | refine mj_isub hJ dX9_judge_114 ?_
                rw [← h5]
                refine mk_Vp2 hJ dX9_judge_115 cw_X9_126 rfl rfl rfl rfl (Nat.le_of_ble_eq_true rfl) (by decide) (c_X9_harm i _ i0 (by omega) (by omega) (by omega) hw) ?_
                first | refine ms_isub hJ dX9_judge_118 (by omega) ?_ | refine mj_isub hJ dX9_judge_118 ?_
                first | refine ms_iadd hJ dX9_judge_119 (by omega) ?_ | refine mj_iadd hJ dX9_judge_119 ?_
                refine ms_istore_n (ls' := [_, _, _, _, _, _]) hJ dX9_judge_120 (by decide) rfl rfl ?_
                refine mj_iload hJ dX9_judge_121 rfl ?_
                refine mj_iload hJ dX9_judge_123 rfl ?_
                first | refine ms_isub hJ dX9_judge_125 (by omega) ?_ | refine mj_isub hJ dX9_judge_125 ?_
                rw [← h5]
                refine ms_istore_n (ls' := [_, _, _, _, _, _]) hJ dX9_judge_126 (by decide) rfl rfl ?_
                refine ms_iinc (ls' := [_, _, _, _, _, _]) hJ dX9_judge_127 rfl (by decide) rfl (wr_id (by omega)) rfl ?_
                refine mj_goto (tgt := 6) hJ dX9_judge_130 (by decide) ?_
                refine mj_drop (ls' := [_, _, _, _, vu, vu]) hJ ⟨Or.inl rfl, Or.inl rfl, Or.inl rfl, Or.inl rfl, Or.inr rfl, Or.inr rfl, trivial⟩ ?_
                rw [← em]
                exact ih (i + 1) _ _ x y (by omega) (by omega) (by omega) (by omega) hj2
              · exact no96 (fun q => h5 q.2.2.2) _ _
          · rw [if_neg h3]
            refine mj_if_eq (tgt := 96) hJ dX9_judge_68 (by decide) (fun _ => ?_) (fun hno => absurd (by decide) hno)
            exact no96 (fun q => h3 q.2.1) _ _
        · exact no34 (fun q => h2 q.1.2)
      · rw [if_neg h1]
        refine mj_if_eq (tgt := 34) hJ dX9_judge_19 (by decide) (fun _ => ?_) (fun hno => absurd (by decide) hno)
        exact no34 (fun q => h1 ⟨i0, q.1.1⟩)
  refine mj_iconst hJ dX9_judge_0 (by decide) ?_
  refine ms_istore_n (ls' := [_, _, _, _, _, _]) hJ dX9_judge_1 (by decide) rfl rfl ?_
  refine mj_iconst hJ dX9_judge_2 (by decide) ?_
  refine ms_istore_n (ls' := [_, _, _, _, _, _]) hJ dX9_judge_3 (by decide) rfl rfl ?_
  refine mj_iconst hJ dX9_judge_4 (by decide) ?_
  refine ms_istore_n (ls' := [_, _, _, _, _, _]) hJ dX9_judge_5 (by decide) rfl rfl ?_
  exact loop (I 111 31).toNat 0 0 0 0 0 (by omega) (by omega) (by omega) (by omega) rfl
end M11
