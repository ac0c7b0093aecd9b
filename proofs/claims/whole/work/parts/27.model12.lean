section M12
variable {G : GE} {I : Ints} {b : Bool}
theorem c_X9_sheet (s t n : Int) : MtI G yX9_sheet cX9_sheet 5 (some .int) 2 [vr 111, vi s, vi t, vi n] I b (Qg (G_sheet I s t n) b (F_sheet s t n)) := by
  refine mt_enterI (own := RX9) (ls0 := [vr 111, vi s, vi t, vi n, vu]) rfl (by decide +kernel) (Nat.le_of_ble_eq_true rfl) rfl rfl (fun J hJ hR => ?_)
  have no : ¬((0 ≤ s ∧ s ≤ 3) ∧ (-1 ≤ t ∧ t ≤ 3) ∧ (0 ≤ t → n ≤ 40)) → J 26 [vr 111, vi s, vi t, vi n, vu] [] (mk I b) := by
    intro hno
    refine mj_iconst hJ dX9_sheet_26 (by decide) ?_
    exact hR _ _ _ _ _ dX9_sheet_27 nar_i ⟨by unfold F_sheet; rw [if_neg hno], rfl, Same.eq (by unfold G_sheet; rw [if_neg (fun q => hno q.1)])⟩
  have K64 : ∀ I1 : Ints, ((0 ≤ s ∧ s ≤ 3) ∧ (-1 ≤ t ∧ t ≤ 3) ∧ (0 ≤ t → n ≤ 40)) → ¬(0 ≤ t ∧ n < 0) → I1 = upI (upI I 136 s t) 137 s (if t < 0 then 0 else n) →
      ∀ (m : Nat) (k : Int) (I2 : Ints), 0 ≤ k → k + m = 40 → (∀ c, c ≠ 138 → I2 c = I1 c) → (∀ j, I2 138 j = if 40 * s ≤ j ∧ j < 40 * s + k then 0 else I 138 j) → J 64 [vr 111, vi s, vi t, vi n, vi k] [] (mk I2 b) := by
    intro I1 hP hQ hI1 m
    have hs := hP.1
    induction m with
    | zero =>
      intro k I2 k0 km hf hr
      refine mj_iload hJ dX9_sheet_64 rfl ?_
      refine mj_bipush hJ dX9_sheet_66 (by decide) ?_
      refine mj_icmp_ge (tgt := 90) hJ dX9_sheet_68 (by decide) (fun _ => ?_) (fun hno => absurd (by omega) hno)
      refine mj_iconst hJ dX9_sheet_90 (by decide) ?_
      refine hR _ _ _ _ _ dX9_sheet_91 nar_i ⟨by unfold F_sheet; rw [if_pos hP, if_neg hQ], rfl, Same.eq ?_⟩
      unfold G_sheet
      rw [if_pos ⟨hP, hQ⟩]
      funext c
      by_cases hc : c = 138
      · subst hc
        rw [rowI_at]
        funext j
        rw [hr j, show 40 * s + k = 40 * s + 40 by omega]
      · rw [rowI_ne hc, hf c hc, hI1]
    | succ m ih =>
      intro k I2 k0 km hf hr
      refine mj_iload hJ dX9_sheet_64 rfl ?_
      refine mj_bipush hJ dX9_sheet_66 (by decide) ?_
      refine mj_icmp_ge (tgt := 90) hJ dX9_sheet_68 (by decide) (fun hyes => absurd hyes (by omega)) (fun _ => ?_)
      refine mj_aload_n hJ dX9_sheet_71 rfl ?_
      refine mk_getR hJ dX9_sheet_72 fw_X9_89 rfl (by decide) rfl rfl ?_
      refine mj_bipush hJ dX9_sheet_75 (by decide) ?_
      refine mj_iload_n hJ dX9_sheet_77 rfl ?_
      first | refine ms_imul hJ dX9_sheet_78 (by omega) ?_ | refine mj_imul hJ dX9_sheet_78 ?_
      refine mj_iload hJ dX9_sheet_79 rfl ?_
      first | refine ms_iadd hJ dX9_sheet_81 (by omega) ?_ | refine mj_iadd hJ dX9_sheet_81 ?_
      refine mj_iconst hJ dX9_sheet_82 (by decide) ?_
      refine mk_iast hJ dX9_sheet_83 rfl (by omega) (by omega) ?_
      refine ms_iinc (ls' := [_, _, _, _, _]) hJ dX9_sheet_84 rfl (by decide) rfl (wr_id (by omega)) rfl ?_
      refine mj_goto (tgt := 64) hJ dX9_sheet_87 (by decide) ?_
      refine ih (k + 1) _ (by omega) (by omega) (fun c hc => (upI_ne hc).trans (hf c hc)) (fun j => ?_)
      rw [upI_at, hr]
      repeat' split
      all_goals omega
  have K28 : ((0 ≤ s ∧ s ≤ 3) ∧ (-1 ≤ t ∧ t ≤ 3) ∧ (0 ≤ t → n ≤ 40)) → J 28 [vr 111, vi s, vi t, vi n, vu] [] (mk I b) := by
    intro hP
    have hs := hP.1
    have K39 : ¬(0 ≤ t ∧ n < 0) → J 39 [vr 111, vi s, vi t, vi n, vu] [] (mk I b) := by
      intro hQ
      refine mj_aload_n hJ dX9_sheet_39 rfl ?_
      refine mk_getR hJ dX9_sheet_40 fw_X9_83 rfl (by decide) rfl rfl ?_
      refine mj_iload_n hJ dX9_sheet_43 rfl ?_
      refine mj_iload_n hJ dX9_sheet_44 rfl ?_
      refine mk_iast hJ dX9_sheet_45 rfl (by omega) (by omega) ?_
      refine mj_aload_n hJ dX9_sheet_46 rfl ?_
      refine mk_getR hJ dX9_sheet_47 fw_X9_86 rfl (by decide) rfl rfl ?_
      refine mj_iload_n hJ dX9_sheet_50 rfl ?_
      refine mj_iload_n hJ dX9_sheet_51 rfl ?_
      have K60 : ∀ x : Int, x = (if t < 0 then 0 else n) → J 60 [vr 111, vi s, vi t, vi n, vu] [vi x, vi s, vr 137] (mk (upI I 136 s t) b) := by
        intro x hx
        refine mk_iast hJ dX9_sheet_60 rfl (by omega) (by omega) ?_
        refine mj_iconst hJ dX9_sheet_61 (by decide) ?_
        refine ms_istore (ls' := [_, _, _, _, _]) hJ dX9_sheet_62 (by decide) rfl rfl ?_
        rw [hx]
        exact K64 _ hP hQ rfl 40 0 _ (by omega) (by omega) (fun _ _ => rfl) (fun j => by rw [upI_ne (by decide), upI_ne (by decide), if_neg (by omega)])
      refine mj_if_ge (tgt := 59) hJ dX9_sheet_52 (by decide) (fun h => ?_) (fun h => ?_)
      · refine mj_iload_n hJ dX9_sheet_59 rfl ?_
        exact K60 n (by rw [if_neg (by omega)])
      · refine mj_iconst hJ dX9_sheet_55 (by decide) ?_
        refine mj_goto (tgt := 60) hJ dX9_sheet_56 (by decide) ?_
        exact K60 0 (by rw [if_pos (by omega)])
    refine mj_iload_n hJ dX9_sheet_28 rfl ?_
    refine mj_if_lt (tgt := 39) hJ dX9_sheet_29 (by decide) (fun h => ?_) (fun h => ?_)
    · exact K39 (by omega)
    · refine mj_iload_n hJ dX9_sheet_32 rfl ?_
      refine mj_if_ge (tgt := 39) hJ dX9_sheet_33 (by decide) (fun h2 => ?_) (fun h2 => ?_)
      · exact K39 (by omega)
      · refine mj_bipush hJ dX9_sheet_36 (by decide) ?_
        exact hR _ _ _ _ _ dX9_sheet_38 nar_i ⟨by unfold F_sheet; rw [if_pos hP, if_pos (by omega)], rfl, Same.eq (by unfold G_sheet; rw [if_neg (fun q => q.2 (by omega))])⟩
  refine mj_iload_n hJ dX9_sheet_0 rfl ?_
  refine mk_Sp1 hJ dX9_sheet_1 cw_X9_287 rfl (Nat.le_of_ble_eq_true rfl) (by decide) (c_X9_isFour s) ?_
  by_cases h : 0 ≤ s ∧ s ≤ 3
  · rw [if_pos h]
    refine mj_if_eq (tgt := 26) hJ dX9_sheet_4 (by decide) (fun hyes => absurd hyes (by decide)) (fun _ => ?_)
    refine mj_iload_n hJ dX9_sheet_7 rfl ?_
    refine mj_iconst hJ dX9_sheet_8 (by decide) ?_
    refine mj_iconst hJ dX9_sheet_9 (by decide) ?_
    refine mk_Sp3 hJ dX9_sheet_10 cw_X9_104 rfl (Nat.le_of_ble_eq_true rfl) (by decide) (c_X9_in t (-1) 3) ?_
    by_cases h2 : -1 ≤ t ∧ t ≤ 3
    · rw [if_pos h2]
      refine mj_if_eq (tgt := 26) hJ dX9_sheet_13 (by decide) (fun hyes => absurd hyes (by decide)) (fun _ => ?_)
      refine mj_iload_n hJ dX9_sheet_16 rfl ?_
      refine mj_if_lt (tgt := 28) hJ dX9_sheet_17 (by decide) (fun h3 => ?_) (fun h3 => ?_)
      · exact K28 ⟨h, h2, fun q => by omega⟩
      · refine mj_iload_n hJ dX9_sheet_20 rfl ?_
        refine mj_bipush hJ dX9_sheet_21 (by decide) ?_
        refine mj_icmp_le (tgt := 28) hJ dX9_sheet_23 (by decide) (fun h4 => ?_) (fun h4 => ?_)
        · exact K28 ⟨h, h2, fun _ => h4⟩
        · exact no (fun q => h4 (q.2.2 (by omega)))
    · rw [if_neg h2]
      refine mj_if_eq (tgt := 26) hJ dX9_sheet_13 (by decide) (fun _ => ?_) (fun hno => absurd (by decide) hno)
      exact no (fun q => h2 q.2.1)
  · rw [if_neg h]
    refine mj_if_eq (tgt := 26) hJ dX9_sheet_4 (by decide) (fun _ => ?_) (fun hno => absurd (by decide) hno)
    exact no (fun q => h q.1)
theorem c_X9_put_ (s i v : Int) (hs : WS I) : MtI G yX9_put_ cX9_put_ 4 (some .int) 2 [vr 111, vi s, vi i, vi v] I b (Qg (G_put I s i v) b (F_put I s i)) := by
  refine mt_enterI (own := RX9) (ls0 := [vr 111, vi s, vi i, vi v]) rfl (by decide +kernel) (Nat.le_of_ble_eq_true rfl) rfl rfl (fun J hJ hR => ?_)
  have out : ¬ putP I s i → I = G_put I s i v := fun q => by unfold G_put; rw [if_neg q]
  refine mj_iload_n hJ dX9_put__0 rfl ?_
  refine mk_Sp1 hJ dX9_put__1 cw_X9_287 rfl (Nat.le_of_ble_eq_true rfl) (by decide) (c_X9_isFour s) ?_
  by_cases h : 0 ≤ s ∧ s ≤ 3
  · rw [if_pos h]
    have hss := hs.2.1 s h.1 (by omega)
    refine mj_if_ne (tgt := 9) hJ dX9_put__4 (by decide) (fun _ => ?_) (fun hno => absurd hno (by decide))
    refine mj_aload_n hJ dX9_put__9 rfl ?_
    refine mk_getR hJ dX9_put__10 fw_X9_83 rfl (by decide) rfl rfl ?_
    refine mj_iload_n hJ dX9_put__13 rfl ?_
    refine mk_iald hJ dX9_put__14 rfl (by omega) (by omega) ?_
    refine mj_if_ge (tgt := 21) hJ dX9_put__15 (by decide) (fun h2 => ?_) (fun h2 => ?_)
    · refine mj_iload_n hJ dX9_put__21 rfl ?_
      refine mj_iconst hJ dX9_put__22 (by decide) ?_
      refine mj_aload_n hJ dX9_put__23 rfl ?_
      refine mk_getR hJ dX9_put__24 fw_X9_86 rfl (by decide) rfl rfl ?_
      refine mj_iload_n hJ dX9_put__27 rfl ?_
      refine mk_iald hJ dX9_put__28 rfl (by omega) (by omega) ?_
      refine mj_iconst hJ dX9_put__29 (by decide) ?_
      first | refine ms_isub hJ dX9_put__30 (by omega) ?_ | refine mj_isub hJ dX9_put__30 ?_
      refine mk_Sp3 hJ dX9_put__31 cw_X9_104 rfl (Nat.le_of_ble_eq_true rfl) (by decide) (c_X9_in i 0 (I 137 s - 1)) ?_
      by_cases h3 : 0 ≤ i ∧ i ≤ I 137 s - 1
      · rw [if_pos h3]
        have hP : putP I s i := ⟨h, by omega, by omega⟩
        have eF : F_put I s i = 1 := by unfold F_put; rw [if_pos h, if_neg (by omega), if_pos hP.2.2]
        have K : ∀ x, x = nrw (I 136 s) v → J 80 [vr 111, vi s, vi i, vi v] [vi x, vi (40 * s + i), vr 138] (mk I b) := by
          intro x hx
          refine mk_iast hJ dX9_put__80 rfl (by omega) (by omega) ?_
          refine mj_iconst hJ dX9_put__81 (by decide) ?_
          rw [hx]
          exact hR _ _ _ _ _ dX9_put__82 nar_i ⟨eF.symm, rfl, Same.eq (by unfold G_put; rw [if_pos hP])⟩
        refine mj_if_ne (tgt := 40) hJ dX9_put__34 (by decide) (fun _ => ?_) (fun hno => absurd hno (by decide))
        refine mj_aload_n hJ dX9_put__40 rfl ?_
        refine mk_getR hJ dX9_put__41 fw_X9_89 rfl (by decide) rfl rfl ?_
        refine mj_bipush hJ dX9_put__44 (by decide) ?_
        refine mj_iload_n hJ dX9_put__46 rfl ?_
        first | refine ms_imul hJ dX9_put__47 (by omega) ?_ | refine mj_imul hJ dX9_put__47 ?_
        refine mj_iload_n hJ dX9_put__48 rfl ?_
        first | refine ms_iadd hJ dX9_put__49 (by omega) ?_ | refine mj_iadd hJ dX9_put__49 ?_
        refine mj_aload_n hJ dX9_put__50 rfl ?_
        refine mk_getR hJ dX9_put__51 fw_X9_83 rfl (by decide) rfl rfl ?_
        refine mj_iload_n hJ dX9_put__54 rfl ?_
        refine mk_iald hJ dX9_put__55 rfl (by omega) (by omega) ?_
        refine mj_if_ne (tgt := 64) hJ dX9_put__56 (by decide) (fun h4 => ?_) (fun h4 => ?_)
        · refine mj_aload_n hJ dX9_put__64 rfl ?_
          refine mk_getR hJ dX9_put__65 fw_X9_83 rfl (by decide) rfl rfl ?_
          refine mj_iload_n hJ dX9_put__68 rfl ?_
          refine mk_iald hJ dX9_put__69 rfl (by omega) (by omega) ?_
          refine mj_iconst hJ dX9_put__70 (by decide) ?_
          refine mj_icmp_ne (tgt := 79) hJ dX9_put__71 (by decide) (fun h5 => ?_) (fun h5 => ?_)
          · refine mj_iload_n hJ dX9_put__79 rfl ?_
            exact K v (by unfold nrw; rw [if_neg h4, if_neg h5])
          · refine mj_iload_n hJ dX9_put__74 rfl ?_
            refine mj_i2s hJ dX9_put__75 ?_
            refine mj_goto (tgt := 80) hJ dX9_put__76 (by decide) ?_
            exact K _ (by unfold nrw; rw [if_neg h4, if_pos (by omega)])
        · refine mj_iload_n hJ dX9_put__59 rfl ?_
          refine mj_i2b hJ dX9_put__60 ?_
          refine mj_goto (tgt := 80) hJ dX9_put__61 (by decide) ?_
          exact K _ (by unfold nrw; rw [if_pos (by omega)])
      · rw [if_neg h3]
        refine mj_if_ne (tgt := 40) hJ dX9_put__34 (by decide) (fun hyes => absurd (by decide) hyes) (fun _ => ?_)
        refine mj_bipush hJ dX9_put__37 (by decide) ?_
        exact hR _ _ _ _ _ dX9_put__39 nar_i ⟨by unfold F_put; rw [if_pos h, if_neg (by omega), if_neg (by omega)], rfl, Same.eq (out (fun q => h3 (by have := q.2.2; omega)))⟩
    · refine mj_bipush hJ dX9_put__18 (by decide) ?_
      exact hR _ _ _ _ _ dX9_put__20 nar_i ⟨by unfold F_put; rw [if_pos h, if_pos (by omega)], rfl, Same.eq (out (fun q => by have := q.2.1; omega))⟩
  · rw [if_neg h]
    refine mj_if_ne (tgt := 9) hJ dX9_put__4 (by decide) (fun hyes => absurd (by decide) hyes) (fun _ => ?_)
    refine mj_iconst hJ dX9_put__7 (by decide) ?_
    exact hR _ _ _ _ _ dX9_put__8 nar_i ⟨by unfold F_put; rw [if_neg h], rfl, Same.eq (out (fun q => h q.1))⟩
theorem c_X9_item (s t i : Int) (hs : WS I) : MtI G yX9_item cX9_item 5 (some .int) 2 [vr 111, vi s, vi t, vi i] I b (Qs I b (F_item I s t i)) := by
  refine mt_enterI (own := RX9) (ls0 := [vr 111, vi s, vi t, vi i, vu]) rfl (by decide +kernel) (Nat.le_of_ble_eq_true rfl) rfl rfl (fun J hJ hR => ?_)
  have no : ¬((0 ≤ s ∧ s ≤ 3) ∧ (0 ≤ t ∧ t ≤ 3)) → J 14 [vr 111, vi s, vi t, vi i, vu] [] (mk I b) := by
    intro hno
    refine mj_iconst hJ dX9_item_14 (by decide) ?_
    exact hR _ _ _ _ _ dX9_item_15 nar_i ⟨by unfold F_item; rw [if_neg hno], rfl, Same.rfl'⟩
  refine mj_iload_n hJ dX9_item_0 rfl ?_
  refine mk_Sp1 hJ dX9_item_1 cw_X9_287 rfl (Nat.le_of_ble_eq_true rfl) (by decide) (c_X9_isFour s) ?_
  by_cases h : 0 ≤ s ∧ s ≤ 3
  · rw [if_pos h]
    have hss := hs.2.1 s h.1 (by omega)
    refine mj_if_eq (tgt := 14) hJ dX9_item_4 (by decide) (fun hyes => absurd hyes (by decide)) (fun _ => ?_)
    refine mj_iload_n hJ dX9_item_7 rfl ?_
    refine mk_Sp1 hJ dX9_item_8 cw_X9_287 rfl (Nat.le_of_ble_eq_true rfl) (by decide) (c_X9_isFour t) ?_
    by_cases h2 : 0 ≤ t ∧ t ≤ 3
    · rw [if_pos h2]
      refine mj_if_ne (tgt := 16) hJ dX9_item_11 (by decide) (fun _ => ?_) (fun hno => absurd hno (by decide))
      refine mj_aload_n hJ dX9_item_16 rfl ?_
      refine mj_iload_n hJ dX9_item_17 rfl ?_
      refine mj_iload_n hJ dX9_item_18 rfl ?_
      refine mk_Vp2 hJ dX9_item_19 cw_X9_290 rfl rfl rfl rfl (Nat.le_of_ble_eq_true rfl) (by decide) (c_X9_notOf s t h.1 h.2) ?_
      refine ms_istore (ls' := [_, _, _, _, _]) hJ dX9_item_22 (by decide) rfl rfl ?_
      refine mj_iload hJ dX9_item_24 rfl ?_
      refine mj_if_eq (tgt := 32) hJ dX9_item_26 (by decide) (fun h3 => ?_) (fun h3 => ?_)
      · refine mj_iload_n hJ dX9_item_32 rfl ?_
        refine mj_iconst hJ dX9_item_33 (by decide) ?_
        refine mj_aload_n hJ dX9_item_34 rfl ?_
        refine mk_getR hJ dX9_item_35 fw_X9_86 rfl (by decide) rfl rfl ?_
        refine mj_iload_n hJ dX9_item_38 rfl ?_
        refine mk_iald hJ dX9_item_39 rfl (by omega) (by omega) ?_
        refine mj_iconst hJ dX9_item_40 (by decide) ?_
        first | refine ms_isub hJ dX9_item_41 (by omega) ?_ | refine mj_isub hJ dX9_item_41 ?_
        refine mk_Sp3 hJ dX9_item_42 cw_X9_104 rfl (Nat.le_of_ble_eq_true rfl) (by decide) (c_X9_in i 0 (I 137 s - 1)) ?_
        by_cases h4 : 0 ≤ i ∧ i ≤ I 137 s - 1
        · rw [if_pos h4]
          refine mj_if_eq (tgt := 62) hJ dX9_item_45 (by decide) (fun hyes => absurd hyes (by decide)) (fun _ => ?_)
          refine mj_aload_n hJ dX9_item_48 rfl ?_
          refine mk_getR hJ dX9_item_49 fw_X9_89 rfl (by decide) rfl rfl ?_
          refine mj_bipush hJ dX9_item_52 (by decide) ?_
          refine mj_iload_n hJ dX9_item_54 rfl ?_
          first | refine ms_imul hJ dX9_item_55 (by omega) ?_ | refine mj_imul hJ dX9_item_55 ?_
          refine mj_iload_n hJ dX9_item_56 rfl ?_
          first | refine ms_iadd hJ dX9_item_57 (by omega) ?_ | refine mj_iadd hJ dX9_item_57 ?_
          refine mk_iald hJ dX9_item_58 rfl (by omega) (by omega) ?_
          refine mj_goto (tgt := 64) hJ dX9_item_59 (by decide) ?_
          exact hR _ _ _ _ _ dX9_item_64 nar_i ⟨by unfold F_item; rw [if_pos ⟨h, h2⟩, if_pos h3, if_pos (by omega)]; rfl, rfl, Same.rfl'⟩
        · rw [if_neg h4]
          refine mj_if_eq (tgt := 62) hJ dX9_item_45 (by decide) (fun _ => ?_) (fun hno => absurd (by decide) hno)
          refine mj_bipush hJ dX9_item_62 (by decide) ?_
          exact hR _ _ _ _ _ dX9_item_64 nar_i ⟨by unfold F_item; rw [if_pos ⟨h, h2⟩, if_pos h3, if_neg (by omega)], rfl, Same.rfl'⟩
      · refine mj_iload hJ dX9_item_29 rfl ?_
        exact hR _ _ _ _ _ dX9_item_31 nar_i ⟨by unfold F_item; rw [if_pos ⟨h, h2⟩, if_neg h3], rfl, Same.rfl'⟩
    · rw [if_neg h2]
      refine mj_if_ne (tgt := 16) hJ dX9_item_11 (by decide) (fun hyes => absurd (by decide) hyes) (fun _ => ?_)
      exact no (fun q => h2 q.2)
  · rw [if_neg h]
    refine mj_if_eq (tgt := 14) hJ dX9_item_4 (by decide) (fun _ => ?_) (fun hno => absurd (by decide) hno)
    exact no (fun q => h q.1)
theorem c_X9_worths (v s : Int) (hw : WN (I 112)) (hs : WS I) : MtI G yX9_worths cX9_worths 6 (some .int) 2 [vr 111, vi v, vi s] I b (Qg (G_worths I v s) b (F_worths I v s)) := by
  refine mt_enterI (own := RX9) (ls0 := [vr 111, vi v, vi s, vu, vu, vu]) rfl (by decide +kernel) (Nat.le_of_ble_eq_true rfl) rfl rfl (fun J hJ hR => ?_)
  have hn := hw.nv
  have out : ¬ wthP I v s → I = G_worths I v s := fun q => by unfold G_worths; rw [if_neg q]
  have no : ¬((0 ≤ v ∧ v < I 112 0) ∧ (0 ≤ s ∧ s ≤ 3)) → J 15 [vr 111, vi v, vi s, vu, vu, vu] [] (mk I b) := by
    intro hno
    refine mj_iconst hJ dX9_worths_15 (by decide) ?_
    exact hR _ _ _ _ _ dX9_worths_16 nar_i ⟨by unfold F_worths; rw [if_neg hno], rfl, Same.eq (out (fun q => hno q.1))⟩
  refine mj_aload_n hJ dX9_worths_0 rfl ?_
  refine mj_iload_n hJ dX9_worths_1 rfl ?_
  refine mk_Vp1 hJ dX9_worths_2 cw_X9_112 rfl rfl rfl rfl (Nat.le_of_ble_eq_true rfl) (by decide) (c_X9_isVillage v hn.1 hn.2) ?_
  by_cases h : 0 ≤ v ∧ v < I 112 0
  · rw [if_pos h]
    refine mj_if_eq (tgt := 15) hJ dX9_worths_5 (by decide) (fun hyes => absurd hyes (by decide)) (fun _ => ?_)
    refine mj_iload_n hJ dX9_worths_8 rfl ?_
    refine mk_Sp1 hJ dX9_worths_9 cw_X9_287 rfl (Nat.le_of_ble_eq_true rfl) (by decide) (c_X9_isFour s) ?_
    by_cases h2 : 0 ≤ s ∧ s ≤ 3
    · rw [if_pos h2]
      refine mj_if_ne (tgt := 17) hJ dX9_worths_12 (by decide) (fun _ => ?_) (fun hno => absurd hno (by decide))
      refine mj_aload_n hJ dX9_worths_17 rfl ?_
      refine mj_iload_n hJ dX9_worths_18 rfl ?_
      refine mj_iconst hJ dX9_worths_19 (by decide) ?_
      refine mk_Vp2 hJ dX9_worths_20 cw_X9_290 rfl rfl rfl rfl (Nat.le_of_ble_eq_true rfl) (by decide) (c_X9_notOf s 0 h2.1 h2.2) ?_
      refine ms_istore_n (ls' := [_, _, _, _, _, _]) hJ dX9_worths_23 (by decide) rfl rfl ?_
      refine mj_iload_n hJ dX9_worths_24 rfl ?_
      refine mj_if_eq (tgt := 30) hJ dX9_worths_25 (by decide) (fun h3 => ?_) (fun h3 => ?_)
      · rw [h3]
        refine mj_aload_n hJ dX9_worths_30 rfl ?_
        refine mk_getR hJ dX9_worths_31 fw_X9_86 rfl (by decide) rfl rfl ?_
        refine mj_iload_n hJ dX9_worths_34 rfl ?_
        refine mk_iald hJ dX9_worths_35 rfl (by omega) (by omega) ?_
        refine mj_bipush hJ dX9_worths_36 (by decide) ?_
        refine mj_icmp_eq (tgt := 44) hJ dX9_worths_38 (by decide) (fun h4 => ?_) (fun h4 => ?_)
        · have L2 : (wok (itm I s) 12).isSome = true → ∀ (m : Nat) (k x : Int) (I1 : Ints), 0 ≤ k → k + m = 12 → (∀ c, c ≠ 112 → I1 c = I c) → (∀ j, I1 112 j = if 10 + 18 * v + 6 ≤ j ∧ j < 10 + 18 * v + 6 + k then itm I s (j - (10 + 18 * v + 6)) else I 112 j) → J 105 [vr 111, vi v, vi s, vi 0, vi x, vi k] [] (mk I1 b) := by
            intro hok m
            have hP : wthP I v s := ⟨⟨h, h2⟩, h3, h4, hok⟩
            induction m with
            | zero =>
              intro k x I1 k0 km hf hr
              refine mj_iload hJ dX9_worths_105 rfl ?_
              refine mj_bipush hJ dX9_worths_107 (by decide) ?_
              refine mj_icmp_ge (tgt := 144) hJ dX9_worths_109 (by decide) (fun _ => ?_) (fun hno => absurd (by omega) hno)
              refine mj_iconst hJ dX9_worths_144 (by decide) ?_
              refine hR _ _ _ _ _ dX9_worths_145 nar_i ⟨by unfold F_worths; rw [if_pos ⟨h, h2⟩, if_pos h3, if_pos ⟨h4, hok⟩], rfl, Same.eq ?_⟩
              unfold G_worths
              rw [if_pos hP]
              funext c
              by_cases hc : c = 112
              · subst hc
                rw [rowI_at]
                funext j
                rw [hr j, show 10 + 18 * v + 6 + k = 10 + 18 * v + 18 by omega]
              · rw [rowI_ne hc, hf c hc]
            | succ m ih =>
              intro k x I1 k0 km hf hr
              have ei : I1 138 (40 * s + k) = itm I s k := by rw [hf 138 (by decide)]; rfl
              refine mj_iload hJ dX9_worths_105 rfl ?_
              refine mj_bipush hJ dX9_worths_107 (by decide) ?_
              refine mj_icmp_ge (tgt := 144) hJ dX9_worths_109 (by decide) (fun hyes => absurd hyes (by omega)) (fun _ => ?_)
              refine mj_aload_n hJ dX9_worths_112 rfl ?_
              refine mk_getR hJ dX9_worths_113 fw_X9_9 rfl (by decide) rfl rfl ?_
              refine mj_iload_n hJ dX9_worths_116 rfl ?_
              refine mj_bipush hJ dX9_worths_117 (by decide) ?_
              refine mj_iload hJ dX9_worths_119 rfl ?_
              first | refine ms_iadd hJ dX9_worths_121 (by omega) ?_ | refine mj_iadd hJ dX9_worths_121 ?_
              refine mk_Sp2 hJ dX9_worths_122 cw_X9_108 rfl (Nat.le_of_ble_eq_true rfl) (by decide) (c_X9_at v (6 + k) h.1 (by omega) (by omega) (by omega)) ?_
              refine mj_aload_n hJ dX9_worths_125 rfl ?_
              refine mk_getR hJ dX9_worths_126 fw_X9_89 rfl (by decide) rfl rfl ?_
              refine mj_bipush hJ dX9_worths_129 (by decide) ?_
              refine mj_iload_n hJ dX9_worths_131 rfl ?_
              first | refine ms_imul hJ dX9_worths_132 (by omega) ?_ | refine mj_imul hJ dX9_worths_132 ?_
              refine mj_iload hJ dX9_worths_133 rfl ?_
              first | refine ms_iadd hJ dX9_worths_135 (by omega) ?_ | refine mj_iadd hJ dX9_worths_135 ?_
              refine mk_iald hJ dX9_worths_136 rfl (by omega) (by omega) ?_
              rw [ei]
              refine mk_iast hJ dX9_worths_137 rfl (by omega) (by omega) ?_
              refine ms_iinc (ls' := [_, _, _, _, _, _]) hJ dX9_worths_138 rfl (by decide) rfl (wr_id (by omega)) rfl ?_
              refine mj_goto (tgt := 105) hJ dX9_worths_141 (by decide) ?_
              refine ih (k + 1) x _ (by omega) (by omega) (fun c hc => (upI_ne hc).trans (hf c hc)) (fun j => ?_)
              rw [upI_at, hr]
              by_cases e : j = 10 + 18 * v + (6 + k)
              · subst e
                rw [if_pos rfl, if_pos (by omega), show 10 + 18 * v + (6 + k) - (10 + 18 * v + 6) = k by omega]
              · rw [if_neg e]
                by_cases q : 10 + 18 * v + 6 ≤ j ∧ j < 10 + 18 * v + 6 + k
                · rw [if_pos q, if_pos (show 10 + 18 * v + 6 ≤ j ∧ j < 10 + 18 * v + 6 + (k + 1) by omega)]
                · rw [if_neg q, if_neg (by omega)]
          have L1 : ∀ (m k : Nat) (a : Int), k + m = 12 → wok (itm I s) k = some a → J 51 [vr 111, vi v, vi s, vi 0, vi a, vi k] [] (mk I b) := by
            intro m
            induction m with
            | zero =>
              intro k a km hk
              have ek : k = 12 := by omega
              subst ek
              refine mj_iload hJ dX9_worths_51 rfl ?_
              refine mj_bipush hJ dX9_worths_53 (by decide) ?_
              refine mj_icmp_ge (tgt := 102) hJ dX9_worths_55 (by decide) (fun _ => ?_) (fun hno => absurd (by omega) hno)
              refine mj_iconst hJ dX9_worths_102 (by decide) ?_
              refine ms_istore (ls' := [_, _, _, _, _, _]) hJ dX9_worths_103 (by decide) rfl rfl ?_
              exact L2 (by rw [hk]; rfl) 12 0 a I (by omega) (by omega) (fun _ _ => rfl) (fun j => by rw [if_neg (by omega)])
            | succ m ih =>
              intro k a km hk
              have st := wok_step hk
              refine mj_iload hJ dX9_worths_51 rfl ?_
              refine mj_bipush hJ dX9_worths_53 (by decide) ?_
              refine mj_icmp_ge (tgt := 102) hJ dX9_worths_55 (by decide) (fun hyes => absurd hyes (by omega)) (fun _ => ?_)
              refine mj_aload_n hJ dX9_worths_58 rfl ?_
              refine mk_getR hJ dX9_worths_59 fw_X9_89 rfl (by decide) rfl rfl ?_
              refine mj_bipush hJ dX9_worths_62 (by decide) ?_
              refine mj_iload_n hJ dX9_worths_64 rfl ?_
              first | refine ms_imul hJ dX9_worths_65 (by omega) ?_ | refine mj_imul hJ dX9_worths_65 ?_
              refine mj_iload hJ dX9_worths_66 rfl ?_
              first | refine ms_iadd hJ dX9_worths_68 (by omega) ?_ | refine mj_iadd hJ dX9_worths_68 ?_
              refine mk_iald hJ dX9_worths_69 rfl (by omega) (by omega) ?_
              rw [show I 138 (40 * s + (k : Int)) = itm I s k from rfl]
              refine mj_iconst hJ dX9_worths_70 (by decide) ?_
              refine mj_iload hJ dX9_worths_71 rfl ?_
              refine mk_Sp3 hJ dX9_worths_73 cw_X9_104 rfl (Nat.le_of_ble_eq_true rfl) (by decide) (c_X9_in (itm I s k) 0 a) ?_
              by_cases c : 0 ≤ itm I s k ∧ itm I s k ≤ a
              · rw [if_pos c] at st
                rw [if_pos c]
                refine mj_if_ne (tgt := 82) hJ dX9_worths_76 (by decide) (fun _ => ?_) (fun hno => absurd hno (by decide))
                refine mj_aload_n hJ dX9_worths_82 rfl ?_
                refine mk_getR hJ dX9_worths_83 fw_X9_89 rfl (by decide) rfl rfl ?_
                refine mj_bipush hJ dX9_worths_86 (by decide) ?_
                refine mj_iload_n hJ dX9_worths_88 rfl ?_
                first | refine ms_imul hJ dX9_worths_89 (by omega) ?_ | refine mj_imul hJ dX9_worths_89 ?_
                refine mj_iload hJ dX9_worths_90 rfl ?_
                first | refine ms_iadd hJ dX9_worths_92 (by omega) ?_ | refine mj_iadd hJ dX9_worths_92 ?_
                refine mk_iald hJ dX9_worths_93 rfl (by omega) (by omega) ?_
                rw [show I 138 (40 * s + (k : Int)) = itm I s k from rfl]
                refine ms_istore (ls' := [_, _, _, _, _, _]) hJ dX9_worths_94 (by decide) rfl rfl ?_
                refine ms_iinc (ls' := [_, _, _, _, _, _]) hJ dX9_worths_96 rfl (by decide) rfl (wr_id (by omega)) rfl ?_
                refine mj_goto (tgt := 51) hJ dX9_worths_99 (by decide) ?_
                exact ih (k + 1) _ (by omega) st
              · rw [if_neg c] at st
                rw [if_neg c]
                have tn := wok_none st m
                rw [show k + 1 + m = 12 by omega] at tn
                have nok : ¬ ((wok (itm I s) 12).isSome = true) := by rw [tn]; decide
                refine mj_if_ne (tgt := 82) hJ dX9_worths_76 (by decide) (fun hyes => absurd (by decide) hyes) (fun _ => ?_)
                refine mj_bipush hJ dX9_worths_79 (by decide) ?_
                exact hR _ _ _ _ _ dX9_worths_81 nar_i ⟨by unfold F_worths; rw [if_pos ⟨h, h2⟩, if_pos h3, if_neg (fun q => nok q.2)], rfl, Same.eq (out (fun q => nok q.2.2.2))⟩
          refine mj_bipush hJ dX9_worths_44 (by decide) ?_
          refine ms_istore (ls' := [_, _, _, _, _, _]) hJ dX9_worths_46 (by decide) rfl rfl ?_
          refine mj_iconst hJ dX9_worths_48 (by decide) ?_
          refine ms_istore (ls' := [_, _, _, _, _, _]) hJ dX9_worths_49 (by decide) rfl rfl ?_
          exact L1 12 0 99 (by omega) rfl
        · refine mj_bipush hJ dX9_worths_41 (by decide) ?_
          exact hR _ _ _ _ _ dX9_worths_43 nar_i ⟨by unfold F_worths; rw [if_pos ⟨h, h2⟩, if_pos h3, if_neg (fun q => h4 q.1)], rfl, Same.eq (out (fun q => h4 q.2.2.1))⟩
      · refine mj_iload_n hJ dX9_worths_28 rfl ?_
        exact hR _ _ _ _ _ dX9_worths_29 nar_i ⟨by unfold F_worths; rw [if_pos ⟨h, h2⟩, if_neg h3], rfl, Same.eq (out (fun q => h3 q.2.1))⟩
    · rw [if_neg h2]
      refine mj_if_ne (tgt := 17) hJ dX9_worths_12 (by decide) (fun hyes => absurd (by decide) hyes) (fun _ => ?_)
      exact no (fun q => h2 q.2)
  · rw [if_neg h]
    refine mj_if_eq (tgt := 15) hJ dX9_worths_5 (by decide) (fun _ => ?_) (fun hno => absurd (by decide) hno)
    exact no (fun q => h q.1)
theorem c_X9_flows_ (v s i n : Int) (hw : WN (I 112)) (hs : WS I) : MtI G yX9_flows_ cX9_flows_ 9 (some .int) 2 [vr 111, vi v, vi s, vi i, vi n] I b (Qg (G_flows I v s i n) b (F_flows I v s i n)) := by
  refine mt_enterI (own := RX9) (ls0 := [vr 111, vi v, vi s, vi i, vi n, vu, vu, vu, vu]) rfl (by decide +kernel) (Nat.le_of_ble_eq_true rfl) rfl rfl (fun J hJ hR => ?_)
  have hn := hw.nv
  have no : ¬ flwP I v s n → J 26 [vr 111, vi v, vi s, vi i, vi n, vu, vu, vu, vu] [] (mk I b) := by
    intro hno
    refine mj_iconst hJ dX9_flows__26 (by decide) ?_
    exact hR _ _ _ _ _ dX9_flows__27 nar_i ⟨by unfold F_flows; rw [if_neg hno], rfl, Same.eq (by unfold G_flows; rw [if_neg (fun q => hno q.1)])⟩
  refine mj_aload_n hJ dX9_flows__0 rfl ?_
  refine mj_iload_n hJ dX9_flows__1 rfl ?_
  refine mk_Vp1 hJ dX9_flows__2 cw_X9_112 rfl rfl rfl rfl (Nat.le_of_ble_eq_true rfl) (by decide) (c_X9_isVillage v hn.1 hn.2) ?_
  by_cases h : 0 ≤ v ∧ v < I 112 0
  · rw [if_pos h]
    refine mj_if_eq (tgt := 26) hJ dX9_flows__5 (by decide) (fun hyes => absurd hyes (by decide)) (fun _ => ?_)
    refine mj_iload_n hJ dX9_flows__8 rfl ?_
    refine mk_Sp1 hJ dX9_flows__9 cw_X9_287 rfl (Nat.le_of_ble_eq_true rfl) (by decide) (c_X9_isFour s) ?_
    by_cases h2 : 0 ≤ s ∧ s ≤ 3
    · rw [if_pos h2]
      have hss := hs.2.1 s h2.1 (by omega)
      refine mj_if_eq (tgt := 26) hJ dX9_flows__12 (by decide) (fun hyes => absurd hyes (by decide)) (fun _ => ?_)
      refine mj_iload hJ dX9_flows__15 rfl ?_
      refine mj_iconst hJ dX9_flows__17 (by decide) ?_
      refine mj_bipush hJ dX9_flows__18 (by decide) ?_
      refine mk_Sp3 hJ dX9_flows__20 cw_X9_104 rfl (Nat.le_of_ble_eq_true rfl) (by decide) (c_X9_in n 0 6) ?_
      by_cases h3 : 0 ≤ n ∧ n ≤ 6
      · rw [if_pos h3]
        have hP : flwP I v s n := ⟨h, h2, h3⟩
        refine mj_if_ne (tgt := 28) hJ dX9_flows__23 (by decide) (fun _ => ?_) (fun hno => absurd hno (by decide))
        refine mj_aload_n hJ dX9_flows__28 rfl ?_
        refine mj_iload_n hJ dX9_flows__29 rfl ?_
        refine mj_iconst hJ dX9_flows__30 (by decide) ?_
        refine mk_Vp2 hJ dX9_flows__31 cw_X9_290 rfl rfl rfl rfl (Nat.le_of_ble_eq_true rfl) (by decide) (c_X9_notOf s 1 h2.1 h2.2) ?_
        refine ms_istore (ls' := [_, _, _, _, _, _, _, _, _]) hJ dX9_flows__34 (by decide) rfl rfl ?_
        refine mj_iload hJ dX9_flows__36 rfl ?_
        refine mj_if_eq (tgt := 44) hJ dX9_flows__38 (by decide) (fun h4 => ?_) (fun h4 => ?_)
        · rw [h4]
          have eF : F_flows I v s i n = (flo v s i n.toNat 0 I 0).1 := by unfold F_flows; rw [if_pos hP, if_pos h4]
          have eG : G_flows I v s i n = (flo v s i n.toNat 0 I 0).2 := by unfold G_flows; rw [if_pos ⟨hP, h4⟩]
          have loop : ∀ (m : Nat) (k c : Int) (x : Vl) (I1 : Ints), 0 ≤ k → k + m = n → (0 ≤ c ∧ c ≤ k) → (∀ c, c ≠ 112 → I1 c = I c) → I1 112 0 = I 112 0 → flo v s i m k I1 c = flo v s i n.toNat 0 I 0 → J 50 [vr 111, vi v, vi s, vi i, vi n, vi 0, vi c, vi k, vu] [] (mk I1 b) := by
            intro m
            induction m with
            | zero =>
              intro k c x I1 k0 km c0 hf h0 he
              refine mj_iload hJ dX9_flows__50 rfl ?_
              refine mj_iload hJ dX9_flows__52 rfl ?_
              refine mj_icmp_ge (tgt := 139) hJ dX9_flows__54 (by decide) (fun _ => ?_) (fun hno => absurd (by omega) hno)
              refine mj_iload hJ dX9_flows__139 rfl ?_
              exact hR _ _ _ _ _ dX9_flows__141 nar_i ⟨by rw [eF, ← he]; rfl, rfl, Same.eq (by rw [eG, ← he]; rfl)⟩
            | succ m ih =>
              intro k c x I1 k0 km c0 hf h0 he
              have e137 := hf 137 (by decide)
              have e138 := hf 138 (by decide)
              have he2 : (if i < 0 ∨ I1 137 s - 1 - k < i then (-12, I1) else if (0 ≤ v + k ∧ v + k < I1 112 0) ∧ (0 ≤ itm I1 s (i + k) ∧ itm I1 s (i + k) ≤ 12) then flo v s i m (k + 1) (upI I1 112 (10 + 18 * (v + k) + 0) (itm I1 s (i + k))) (c + 1) else flo v s i m (k + 1) I1 c) = flo v s i n.toNat 0 I 0 := he
              have bad : (i < 0 ∨ I1 137 s - 1 - k < i) → J 76 [vr 111, vi v, vi s, vi i, vi n, vi 0, vi c, vi k, vu] [] (mk I1 b) := by
                intro hb
                rw [if_pos hb] at he2
                refine mj_bipush hJ dX9_flows__76 (by decide) ?_
                exact hR _ _ _ _ _ dX9_flows__78 nar_i ⟨by rw [eF, ← he2], rfl, Same.eq (by rw [eG, ← he2])⟩
              refine mj_iload hJ dX9_flows__50 rfl ?_
              refine mj_iload hJ dX9_flows__52 rfl ?_
              refine mj_icmp_ge (tgt := 139) hJ dX9_flows__54 (by decide) (fun hyes => absurd hyes (by omega)) (fun _ => ?_)
              refine mj_iload_n hJ dX9_flows__57 rfl ?_
              refine mj_if_lt (tgt := 76) hJ dX9_flows__58 (by decide) (fun hi => ?_) (fun hi => ?_)
              · exact bad (Or.inl hi)
              · refine mj_iload_n hJ dX9_flows__61 rfl ?_
                refine mj_aload_n hJ dX9_flows__62 rfl ?_
                refine mk_getR hJ dX9_flows__63 fw_X9_86 rfl (by decide) rfl rfl ?_
                refine mj_iload_n hJ dX9_flows__66 rfl ?_
                refine mk_iald hJ dX9_flows__67 rfl (by omega) (by omega) ?_
                rw [e137]
                refine mj_iconst hJ dX9_flows__68 (by decide) ?_
                first | refine ms_isub hJ dX9_flows__69 (by omega) ?_ | refine mj_isub hJ dX9_flows__69 ?_
                refine mj_iload hJ dX9_flows__70 rfl ?_
                first | refine ms_isub hJ dX9_flows__72 (by omega) ?_ | refine mj_isub hJ dX9_flows__72 ?_
                refine mj_icmp_le (tgt := 79) hJ dX9_flows__73 (by decide) (fun hi2 => ?_) (fun hi2 => ?_)
                · rw [if_neg (by rw [e137]; omega)] at he2
                  refine mj_aload_n hJ dX9_flows__79 rfl ?_
                  refine mk_getR hJ dX9_flows__80 fw_X9_89 rfl (by decide) rfl rfl ?_
                  refine mj_bipush hJ dX9_flows__83 (by decide) ?_
                  refine mj_iload_n hJ dX9_flows__85 rfl ?_
                  first | refine ms_imul hJ dX9_flows__86 (by omega) ?_ | refine mj_imul hJ dX9_flows__86 ?_
                  refine mj_iload_n hJ dX9_flows__87 rfl ?_
                  first | refine ms_iadd hJ dX9_flows__88 (by omega) ?_ | refine mj_iadd hJ dX9_flows__88 ?_
                  refine mj_iload hJ dX9_flows__89 rfl ?_
                  first | refine ms_iadd hJ dX9_flows__91 (by omega) ?_ | refine mj_iadd hJ dX9_flows__91 ?_
                  refine mk_iald hJ dX9_flows__92 rfl (by omega) (by omega) ?_
                  refine ms_istore (ls' := [_, _, _, _, _, _, _, _, _]) hJ dX9_flows__93 (by decide) rfl rfl ?_
                  rw [show 40 * s + i + k = 40 * s + (i + k) by omega, show I1 138 (40 * s + (i + k)) = itm I1 s (i + k) from rfl]
                  refine mj_aload_n hJ dX9_flows__95 rfl ?_
                  refine mj_iload_n hJ dX9_flows__96 rfl ?_
                  refine mj_iload hJ dX9_flows__97 rfl ?_
                  first | refine ms_iadd hJ dX9_flows__99 (by omega) ?_ | refine mj_iadd hJ dX9_flows__99 ?_
                  refine mk_Vp1 hJ dX9_flows__100 cw_X9_112 rfl rfl rfl rfl (Nat.le_of_ble_eq_true rfl) (by decide) (c_X9_isVillage (v + k) (by rw [h0]; exact hn.1) (by rw [h0]; exact hn.2)) ?_
                  by_cases h5 : 0 ≤ v + k ∧ v + k < I1 112 0
                  · rw [if_pos h5]
                    refine mj_if_eq (tgt := 133) hJ dX9_flows__103 (by decide) (fun hyes => absurd hyes (by decide)) (fun _ => ?_)
                    refine mj_iconst hJ dX9_flows__106 (by decide) ?_
                    refine mj_iload hJ dX9_flows__107 rfl ?_
                    refine mk_Sp2 hJ dX9_flows__109 cw_X9_119 rfl (Nat.le_of_ble_eq_true rfl) (by decide) (c_X9_fits 0 (itm I1 s (i + k)) (by omega) (by omega)) ?_
                    by_cases h6 : 0 ≤ itm I1 s (i + k) ∧ itm I1 s (i + k) ≤ 12
                    · rw [if_pos (show (if (0 : Int) = 5 then 1 else 0) ≤ itm I1 s (i + k) ∧ itm I1 s (i + k) ≤ (if (0 : Int) = 0 then 12 else if (0 : Int) = 1 ∨ (0 : Int) = 4 then 99 else if (0 : Int) = 2 then 9 else if (0 : Int) = 3 then 20 else 9) from h6)]
                      rw [if_pos ⟨h5, h6⟩] at he2
                      refine mj_if_eq (tgt := 133) hJ dX9_flows__112 (by decide) (fun hyes => absurd hyes (by decide)) (fun _ => ?_)
                      refine mj_aload_n hJ dX9_flows__115 rfl ?_
                      refine mk_getR hJ dX9_flows__116 fw_X9_9 rfl (by decide) rfl rfl ?_
                      refine mj_iload_n hJ dX9_flows__119 rfl ?_
                      refine mj_iload hJ dX9_flows__120 rfl ?_
                      first | refine ms_iadd hJ dX9_flows__122 (by omega) ?_ | refine mj_iadd hJ dX9_flows__122 ?_
                      refine mj_iconst hJ dX9_flows__123 (by decide) ?_
                      refine mk_Sp2 hJ dX9_flows__124 cw_X9_108 rfl (Nat.le_of_ble_eq_true rfl) (by decide) (c_X9_at (v + k) 0 h5.1 (by omega) (by omega) (by omega)) ?_
                      refine mj_iload hJ dX9_flows__127 rfl ?_
                      refine mk_iast hJ dX9_flows__129 rfl (by omega) (by omega) ?_
                      refine ms_iinc (ls' := [_, _, _, _, _, _, _, _, _]) hJ dX9_flows__130 rfl (by decide) rfl (wr_id (by omega)) rfl ?_
                      refine ms_iinc (ls' := [_, _, _, _, _, _, _, _, _]) hJ dX9_flows__133 rfl (by decide) rfl (wr_id (by omega)) rfl ?_
                      refine mj_goto (tgt := 50) hJ dX9_flows__136 (by decide) ?_
                      refine mj_drop (ls' := [_, _, _, _, _, _, _, _, vu]) hJ ⟨Or.inl rfl, Or.inl rfl, Or.inl rfl, Or.inl rfl, Or.inl rfl, Or.inl rfl, Or.inl rfl, Or.inl rfl, Or.inr rfl, trivial⟩ ?_
                      exact ih (k + 1) (c + 1) x _ (by omega) (by omega) (by omega) (fun c hc => (upI_ne hc).trans (hf c hc)) (by rw [upI_at, if_neg (by omega)]; exact h0) he2
                    · rw [if_neg (show ¬((if (0 : Int) = 5 then 1 else 0) ≤ itm I1 s (i + k) ∧ itm I1 s (i + k) ≤ (if (0 : Int) = 0 then 12 else if (0 : Int) = 1 ∨ (0 : Int) = 4 then 99 else if (0 : Int) = 2 then 9 else if (0 : Int) = 3 then 20 else 9)) from h6)]
                      rw [if_neg (fun q => h6 q.2)] at he2
                      refine mj_if_eq (tgt := 133) hJ dX9_flows__112 (by decide) (fun _ => ?_) (fun hno => absurd rfl hno)
                      refine ms_iinc (ls' := [_, _, _, _, _, _, _, _, _]) hJ dX9_flows__133 rfl (by decide) rfl (wr_id (by omega)) rfl ?_
                      refine mj_goto (tgt := 50) hJ dX9_flows__136 (by decide) ?_
                      refine mj_drop (ls' := [_, _, _, _, _, _, _, _, vu]) hJ ⟨Or.inl rfl, Or.inl rfl, Or.inl rfl, Or.inl rfl, Or.inl rfl, Or.inl rfl, Or.inl rfl, Or.inl rfl, Or.inr rfl, trivial⟩ ?_
                      exact ih (k + 1) c x _ (by omega) (by omega) (by omega) hf h0 he2
                  · rw [if_neg h5]
                    rw [if_neg (fun q => h5 q.1)] at he2
                    refine mj_if_eq (tgt := 133) hJ dX9_flows__103 (by decide) (fun _ => ?_) (fun hno => absurd rfl hno)
                    refine ms_iinc (ls' := [_, _, _, _, _, _, _, _, _]) hJ dX9_flows__133 rfl (by decide) rfl (wr_id (by omega)) rfl ?_
                    refine mj_goto (tgt := 50) hJ dX9_flows__136 (by decide) ?_
                    refine mj_drop (ls' := [_, _, _, _, _, _, _, _, vu]) hJ ⟨Or.inl rfl, Or.inl rfl, Or.inl rfl, Or.inl rfl, Or.inl rfl, Or.inl rfl, Or.inl rfl, Or.inl rfl, Or.inr rfl, trivial⟩ ?_
                    exact ih (k + 1) c x _ (by omega) (by omega) (by omega) hf h0 he2
                · exact bad (Or.inr (by rw [e137]; omega))
          refine mj_iconst hJ dX9_flows__44 (by decide) ?_
          refine ms_istore (ls' := [_, _, _, _, _, _, _, _, _]) hJ dX9_flows__45 (by decide) rfl rfl ?_
          refine mj_iconst hJ dX9_flows__47 (by decide) ?_
          refine ms_istore (ls' := [_, _, _, _, _, _, _, _, _]) hJ dX9_flows__48 (by decide) rfl rfl ?_
          exact loop n.toNat 0 0 vu I (by omega) (by omega) (by omega) (fun _ _ => rfl) rfl rfl
        · refine mj_iload hJ dX9_flows__41 rfl ?_
          exact hR _ _ _ _ _ dX9_flows__43 nar_i ⟨by unfold F_flows; rw [if_pos hP, if_neg h4], rfl, Same.eq (by unfold G_flows; rw [if_neg (fun q => h4 q.2)])⟩
      · rw [if_neg h3]
        refine mj_if_ne (tgt := 28) hJ dX9_flows__23 (by decide) (fun hyes => absurd (by decide) hyes) (fun _ => ?_)
        exact no (fun q => h3 q.2.2)
    · rw [if_neg h2]
      refine mj_if_eq (tgt := 26) hJ dX9_flows__12 (by decide) (fun _ => ?_) (fun hno => absurd (by decide) hno)
      exact no (fun q => h2 q.2.1)
  · rw [if_neg h]
    refine mj_if_eq (tgt := 26) hJ dX9_flows__5 (by decide) (fun _ => ?_) (fun hno => absurd (by decide) hno)
    exact no (fun q => h q.1)
end M12
